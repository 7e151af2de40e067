/** Promises 1 to 6: a new object, feed, end, lane, rule, force; the two languages and their FAULTS. */
public final class TextTest {
    private static final Told T = new Told("TextTest");
    /** CHILDREN 1 and 3 CAN in TURN 0. */
    private static final String FOUR = "lane 2;child 5 9 3;child 8 6 2;child 4 7 1;child 9 5 5";

    private static void newObject() {
        LeapLane x = new LeapLane();
        int[] counts = {0, 0, 0, -1, 0, 0, -1, 0, 0, 0, 0, 0};
        for (int what = 0; what < counts.length; what++) {
            T.due("new: count(" + what + ")", counts[what], x.count(what));
        }
        T.due("new: order", -1, x.order());
        T.due("new: turn", -1, x.turn());
        T.due("new: undo", -1, x.undo());
        T.due("new: child", -1, x.child(0, 0));
        T.due("new: leap", -1, x.leap(0, 1));
        T.due("new: stoop", -1, x.stoop(0, 1));
        T.due("new: breath", -1, x.breath(0, 1));
        T.due("new: front", -1, x.front(0));
        T.due("new: fewest", -1, x.fewest(0));
        T.due("new: step", -1, x.step(0, 0, 0));
        T.due("new: orders", -1, x.orders(0));
        T.due("new: farthest", -1, x.farthest(0));
        T.due("new: first", -1, x.first(0));
        T.due("new: behind", -1, x.behind(0));
        T.due("new: sources", -1, x.sources());
        T.due("new: ahead", -1, x.ahead(0, 0, 0));
        T.due("new: leads", -1, x.leads(0));
        T.due("new: stuck", -1, x.stuck());
        T.due("new: given", -2, x.given(1, 0));
        T.due("new: leapsOf", -1, x.leapsOf(0));
        T.due("new: backsOf", -1, x.backsOf(0));
        T.due("new: rests", -1, x.rests(0, 1, 1, 0));
        T.due("new: alike", -1, x.alike(0));
        T.due("new: pence", -1, x.pence(0, 0));
        T.due("new: note", -2, x.note(0, 0));
        T.due("new: note none", 0, x.note(-1, 0));
        T.due("new: ruled", -3, x.ruled(0));
        T.due("new: look", -1, x.look(0));
        T.due("new: stumbles", -1, x.stumbles(1, 1, 0, 0));
        T.due("new: back", -1, x.back(0));
    }

    private static void feedAndEnd() {
        LeapLane x = new LeapLane();
        for (int i = 1; i <= 20; i++) {
            T.due("feed " + i, 20 * i, x.feed(0, 0, 0, 0, 0));
        }
        T.due("feed beyond 400", -1, x.feed(0, 0, 0, 0, 0));
        T.due("bytes", 400, x.count(11));
        T.due("end(401)", -1, x.end(401));
        T.due("end(-1)", -1, x.end(-1));
        T.due("bytes", 400, x.count(11));
        T.due("end(381)", 381, x.end(381));
        T.due("feed to 401", -1, x.feed(0, 0, 0, 0, 0));
        T.due("bytes", 381, x.count(11));
        T.due("end(380)", 380, x.end(380));
        T.due("feed to 400", 400, x.feed(0, 0, 0, 0, 0));
        T.due("end(0)", 0, x.end(0));
        T.due("end(1)", -1, x.end(1));
        // of each number the highest byte first: "lane", " 2;c", "hild", " 5 9", " 3.."
        T.due("feed", 20, x.feed(0x6c616e65, 0x20323b63, 0x68696c64, 0x20352039, 0x20330000));
        T.due("end(18)", 18, x.end(18));
        T.due("lane", 1, x.lane());
        T.due("back told", 5, x.child(0, 0));
        T.due("leap told", 9, x.child(0, 1));
        T.due("breath told", 3, x.child(0, 2));
        T.due("bytes of an empty tape", 0, x.count(11));
        T.due("end(n) of all", 0, x.end(0));
    }

    private static void goodLane(String text, int children) {
        LeapLane x = new LeapLane();
        T.due("lane '" + text + "'", children, Told.lane(x, text));
        T.due("its bytes then", 0, x.count(11));
        T.due("its children", children, x.count(1));
    }

    private static void badLane(String text, int place, int kind) {
        LeapLane x = new LeapLane();
        T.due("lane '" + text + "'", Told.fault(place, kind), Told.lane(x, text));
        T.due("its bytes then", 0, x.count(11));
        T.due("no lane", -1, x.order());
    }

    private static void lanes() {
        goodLane("lane 1", 0);
        goodLane("lane6", 0);
        goodLane("  lane   00003  ", 0);
        goodLane("lane 1;child 1 1 0", 1);
        goodLane("lane 1;child 20 20 30", 1);
        goodLane("lane2;child1 1 0;child 00020  020 00030 ;  child 3 4 5", 3);
        goodLane("lane 1" + ";child 1 1 0".repeat(7), 7);
        goodLane("lane 1" + " ".repeat(394), 0);
        badLane("", 0, 0);
        badLane("   ", 3, 0);
        badLane("lane", 4, 0);
        badLane("lane ", 5, 0);
        badLane("lane 0", 5, 1);
        badLane("lane 7", 5, 1);
        badLane("lane 000001", 5, 1);
        badLane("lane 123456789012", 5, 1);
        badLane("lane -1", 5, 0);
        badLane("lane x", 5, 0);
        badLane("lanes 1", 0, 0);
        badLane("lan 1", 0, 0);
        badLane("lanez 1", 0, 0);
        badLane("lanea 1", 0, 0);
        badLane("lane{1", 4, 0);
        badLane("lane`1", 4, 0);
        badLane("lane 1:", 6, 0);
        badLane("lane 1/", 6, 0);
        badLane("Lane 1", 0, 0);
        badLane("leap 1", 0, 0);
        badLane("breaths", 0, 0);
        badLane("1", 0, 0);
        badLane("lane 1;", 7, 0);
        badLane("lane 1; ", 8, 0);
        badLane("lane 1;;", 7, 0);
        badLane("lane 1 1", 7, 0);
        badLane("lane 1 123456", 7, 0);
        badLane("lane 1x", 6, 0);
        badLane("lane 1\u00ff", 6, 0);
        badLane("lane 1\u0000", 6, 0);
        badLane("lane 1\t", 6, 0);
        badLane("child 1 1 0", 0, 4);
        badLane(" child 1 1 0;lane 1", 1, 4);
        badLane("lane 1;lane 1", 7, 4);
        badLane("lane 1; lane", 8, 4);
        badLane("lane 1;child", 12, 0);
        badLane("lane 1;child 1", 14, 0);
        badLane("lane 1;child 1 1", 16, 0);
        badLane("lane 1;child 1 1;", 16, 0);
        badLane("lane 1;child 0 1 0", 13, 1);
        badLane("lane 1;child 21 1 0", 13, 1);
        badLane("lane 1;child 1 0 0", 15, 1);
        badLane("lane 1;child 1 21 0", 15, 1);
        badLane("lane 1;child 1 1 31", 17, 1);
        badLane("lane 1;child 1 1 000000", 17, 1);
        badLane("lane 1;child 1 1 0 0", 19, 0);
        badLane("lane 1;childs 1 1 0", 7, 0);
        badLane("lane 1" + ";child 1 1 0".repeat(8), 6 + 7 * 12 + 1, 4);
        badLane("lane 1" + ";child 1 1 0".repeat(7) + ";lane 1", 6 + 7 * 12 + 1, 4);
        badLane("lane 1" + ";child 1 1 0".repeat(7) + ";chil", 6 + 7 * 12 + 1, 0);
    }

    private static void laneReplaces() {
        LeapLane x = Told.of(FOUR, "leap 1");
        x.force(0);
        x.seed(77);
        x.turn();
        x.note(3, 2);
        T.due("a faulty lane", Told.fault(4, 0), Told.lane(x, "lane"));
        T.due("its tape is empty", 0, x.count(11));
        T.due("the lane stays", 4, x.count(1));
        T.due("TURN stays", 1, x.count(4));
        T.due("NOTES stay", 1, x.count(8));
        T.due("ACTS stay", 1, x.count(9));
        T.due("another lane", 2, Told.lane(x, "lane 3;child 1 2 3;child 4 5 6"));
        T.due("SPRING", 3, x.count(0));
        T.due("CHILDREN", 2, x.count(1));
        T.due("RULES stay", 1, x.count(2));
        T.due("the RULE IN FORCE stays", 0, x.count(3));
        T.due("TURN", 0, x.count(4));
        T.due("nobody LEAPT", 0, x.count(7));
        T.due("no NOTES", 0, x.count(8));
        T.due("nothing to be UNDONE", 0, x.count(9));
        T.due("x stays", 77, x.count(10));
        T.due("the order told", 12, x.order());
        T.due("undo", -1, x.undo());
    }

    private static void badRule(String text, int place, int kind) {
        LeapLane x = new LeapLane();
        T.due("rule '" + text + "'", Told.fault(place, kind), Told.rule(x, text));
        T.due("its bytes then", 0, x.count(11));
        T.due("no rule", 0, x.count(2));
    }

    private static void goodRule(String text) {
        LeapLane x = new LeapLane();
        T.due("rule '" + text + "'", 0, Told.rule(x, text));
        T.due("its bytes then", 0, x.count(11));
        T.due("rules", 1, x.count(2));
    }

    private static void faultsOfRules() {
        badRule("", 0, 0);
        badRule("leap", 4, 0);
        badRule("leap ", 5, 0);
        badRule("leaps 1", 0, 0);
        badRule("lane 1", 0, 0);
        badRule("leap x", 5, 0);
        badRule("leap if", 5, 0);
        badRule("leap not", 5, 0);
        badRule("leap lane", 5, 0);
        badRule("leap [1]", 5, 0);
        badRule("leap -1", 5, 0);
        badRule("leap 1;", 7, 0);
        badRule("leap 1;x", 7, 0);
        badRule("leap 1 1", 7, 0);
        badRule("leap 1 or", 7, 0);
        badRule("leap 1 <", 7, 0);
        badRule("leap 1]", 6, 0);
        badRule("leap 5 %", 8, 0);
        badRule("leap 5 % % 2", 9, 0);
        badRule("leap 5 +", 8, 0);
        badRule("leap 123456", 5, 1);
        badRule("leap 000000", 5, 1);
        badRule("leap 1 if", 9, 0);
        badRule("leap 1 if ]", 10, 0);
        badRule("leap 1 if 1", 11, 0);
        badRule("leap 1 if 1;leap 1", 11, 0);
        badRule("leap 1 if 1 and 2<3", 12, 0);
        badRule("leap 1 if 1<", 12, 0);
        badRule("leap 1 if 1<2<3", 13, 0);
        badRule("leap 1 if 1 < = 2", 14, 0);
        badRule("leap 1 if 1 =< 2", 13, 0);
        badRule("leap 1 if 1 == 2", 13, 0);
        badRule("leap 1 if 1 ! 2", 12, 0);
        badRule("leap 1 if 1<2 3", 14, 0);
        badRule("leap 1 if 1<2 not 1<2", 14, 0);
        badRule("leap 1 if 1<2 and", 17, 0);
        badRule("leap 1 if 1<2 andy 1<2", 14, 0);
        badRule("leap 1 if 1<2 if 1<2", 14, 0);
        badRule("leap 1 if over = 1]", 18, 0);
        badRule("leap 1 if [over = 1", 19, 0);
        badRule("leap 1 if [over = 1;leap 1", 19, 0);
        badRule("leap 1 if [1]", 12, 0);
        badRule("leap 1 if [1<2] 3", 16, 0);
        badRule("leap 1 if [1<2]]", 15, 0);
        badRule("leap 1 if [1<2]+1", 15, 0);
        badRule("leap 1 if [1]<2", 12, 0);
        badRule("leap 1 if not", 13, 0);
        badRule("leap 1 if not if", 14, 0);
        badRule("leap 1 if 1<123456", 12, 1);
        badRule("leap 1\u00e9", 6, 0);
    }

    private static void limitsOfRules() {
        goodRule("leap1");
        goodRule("leap 99999*00000");
        goodRule("leap1if2<3or4>5and6=7;leap child");
        goodRule("leap 1 if " + "not ".repeat(10) + "1<2");
        goodRule("leap 1 if " + "[".repeat(10) + "1<2" + "]".repeat(10));
        goodRule("leap 1 if " + "not [".repeat(5) + "1<2" + "]".repeat(5) + " and " + "not [".repeat(5) + "1<2" + "]".repeat(5));
        goodRule("leap 1 if " + "not ".repeat(10) + "1<2 or " + "not ".repeat(10) + "1<2;leap 1 if not 1<2");
        badRule("leap 1 if " + "not ".repeat(11) + "1<2", 50, 2);
        badRule("leap 1 if " + "[".repeat(11) + "1<2", 20, 2);
        badRule("leap 1 if " + "not ".repeat(10) + "[1<2]", 50, 2);
        badRule("leap 1 if " + "[".repeat(9) + "1<2 and not not 1<2", 31, 2);
        goodRule("leap 1" + "+1".repeat(59));
        badRule("leap 1" + "+1".repeat(60), 125, 3);
        badRule("leap 1" + "+1".repeat(59) + "+123456", 125, 1);
        badRule("leap 1" + "+1".repeat(59) + "+if", 125, 0);
        goodRule("leap 1" + "+1".repeat(56) + " if 1<2");
        badRule("leap 1" + "+1".repeat(57) + " if 1<2", 126, 3);
        badRule("leap 1" + "+1".repeat(58) + " if 1<=2", 127, 3);
        badRule("leap 1" + "+1".repeat(59) + " if 1<2", 128, 3);
        badRule("leap 1" + "+1".repeat(58) + " if 1 2", 128, 0);
        goodRule("leap 1" + ";leap 1".repeat(11));
        badRule("leap 1" + ";leap 1".repeat(12), 6 + 11 * 7 + 1, 4);
        badRule("leap 1" + "; leap".repeat(1), 12, 0);
        badRule("leap 1" + ";leap 1".repeat(11) + "; leap", 6 + 11 * 7 + 2, 4);
        badRule("leap 1" + ";leap 1".repeat(11) + "; leapt", 6 + 11 * 7 + 2, 0);
        badRule("leap 1" + ";leap 1".repeat(11) + ";", 6 + 11 * 7 + 1, 0);
        goodRule("leap 1" + " ".repeat(394));
    }

    /** What was cut off behind a text is not read. */
    private static void cutTexts() {
        LeapLane x = new LeapLane();
        Told.put(x, "leap 1 if 1<=2");
        T.due("end(12)", 12, x.end(12));
        T.due("rule cut ahead of =", Told.fault(12, 0), x.rule());
        Told.put(x, "leap 1 if 1<=2");
        T.due("end(11)", 11, x.end(11));
        T.due("rule cut ahead of <", Told.fault(11, 0), x.rule());
        Told.put(x, "leap 1 if 1<=2");
        T.due("end(6)", 6, x.end(6));
        T.due("rule cut ahead of if", 0, x.rule());
        Told.put(x, "lane 12");
        T.due("end(6)", 6, x.end(6));
        T.due("lane cut ahead of a digit", 0, x.lane());
        T.due("its spring", 1, x.count(0));
        Told.put(x, "lanes");
        T.due("end(4)", 4, x.end(4));
        T.due("lane cut ahead of a letter", Told.fault(4, 0), x.lane());
        Told.put(x, "lane  1");
        T.due("end(5)", 5, x.end(5));
        T.due("lane cut ahead of a blank", Told.fault(5, 0), x.lane());
    }

    private static void sixRules() {
        LeapLane x = new LeapLane();
        for (int i = 0; i < 6; i++) {
            T.due("force(" + i + ") ahead of it", -2, x.force(i));
            T.due("rule " + i, i, Told.rule(x, "leap " + i));
        }
        T.due("a seventh rule", -1, Told.rule(x, "leap 1"));
        T.due("its tape stays", 6, x.count(11));
        T.due("a seventh rule, faulty", -1, Told.rule(x, "leap"));
        T.due("its tape stays, too", 4, x.count(11));
        T.due("rules", 6, x.count(2));
        T.due("force(6)", -2, x.force(6));
        T.due("force(-2)", -2, x.force(-2));
        T.due("nothing happened", -1, x.count(3));
        T.due("force(5)", -1, x.force(5));
        T.due("force(2)", 5, x.force(2));
        T.due("count(3)", 2, x.count(3));
        T.due("force(NONE)", 2, x.force(-1));
        T.due("force(NONE)", -1, x.force(-1));
    }

    private static void leaps(String rule, int who) {
        LeapLane x = Told.of(FOUR, rule);
        x.force(0);
        T.due("who leaps by '" + rule + "'", who, x.turn());
    }

    private static void sums() {
        leaps("leap 1", 1);
        leaps("leap 0", -2);
        leaps("leap 0-1", -2);
        leaps("leap child", 3);
        leaps("leap 5-child", 1);
        leaps("leap place", 3);
        leaps("leap back", 3);
        leaps("leap leap", 1);
        leaps("leap breath", 3);
        leaps("leap over", 1);
        leaps("leap over-1", -2);
        leaps("leap leapt", -2);
        leaps("leap many-3", 1);
        leaps("leap many-4", -2);
        leaps("leap can-1", 1);
        leaps("leap can-2", -2);
        leaps("leap turn", -2);
        leaps("leap 1-1-1+1", -2);
        leaps("leap 8/2/2-1", 1);
        leaps("leap 8/2/2-2", -2);
        leaps("leap 2*3%4-1", 1);
        leaps("leap 2*3%4-2", -2);
        leaps("leap 1+2*3-6", 1);
        leaps("leap 1+2*3-7", -2);
        leaps("leap 5/0", -2);
        leaps("leap 5%0", -2);
        leaps("leap 5%0+5/0+1", 1);
        leaps("leap 7/2-3", -2);
        // 99999 to the fifth goes round to -337012131482191585
        String below = "99999*99999*99999*99999*99999";
        leaps("leap " + below, -2);
        leaps("leap 0-" + below, 1);
        leaps("leap 1+" + below + "%2", -2);
        leaps("leap " + below + "/2*2-" + below, 1);
    }

    private static void tests() {
        leaps("leap child if child < 3", 1);
        leaps("leap child if child <= 3", 3);
        leaps("leap child if child = 1", 1);
        leaps("leap 5-child if child > 1", 3);
        leaps("leap 5-child if child >= 1", 1);
        leaps("leap 5-child if child >= 2", 3);
        leaps("leap child if child < 1", -2);
        leaps("leap 1 if 1=1 or 1=1 and 1=2", 1);
        leaps("leap 1 if [1=1 or 1=1] and 1=2", -2);
        leaps("leap 1 if 1=2 and 1=1 or 1=1", 1);
        leaps("leap 1 if 1=2 and [1=1 or 1=1]", -2);
        leaps("leap 1 if not 1=2 and 1=2", -2);
        leaps("leap 1 if not [1=2 and 1=2]", 1);
        leaps("leap 1 if not not 1=2", -2);
        leaps("leap 1 if not not 1=1", 1);
        leaps("leap 1 if not [not [child = 3]]", 3);
        leaps("leap 1 if 2+1*2=4 and 4=2+1*2", 1);
        leaps("leap 1 if child = 3;leap 5", 1);
        leaps("leap 0 if child = 1;leap 5", 3);
        leaps("leap 5;leap 9 if child = 3", 1);
        leaps("leap 1 if 1=2;leap 2 if 1=2;leap child if 1=1;leap 9-child", 3);
        leaps("leap 9 if 1=2", -2);
    }

    public static void main(String[] args) {
        T.due("NONE", -1, LeapLane.NONE);
        newObject();
        feedAndEnd();
        lanes();
        laneReplaces();
        faultsOfRules();
        limitsOfRules();
        cutTexts();
        sixRules();
        sums();
        tests();
        T.close();
    }
}

import java.util.List;

/**
 * The boundaries of promises 1 to 6 and of the two languages, each on both of its sides. Texts are read by an object
 * that has a LANE, RULES, ACTS, NOTES and IMAGES: a text with a FAULT leaves all that as it is.
 */
public final class TextEdgeTest {
    private static final Told T = new Told("TextEdgeTest");
    private static final Edges LIVED = new Edges(T, Edges::lived);
    private static final Edges NEW = new Edges(T, LeapLane::new);
    /** Child 1 CAN, and nobody else. */
    private static final String TWO = "lane 1;child 5 9 3;child 8 6 2";
    /** Of 25 digits: goes round to -337012131482191585. */
    private static final String BELOW = "99999*99999*99999*99999*99999";

    private static String blanks(int many) {
        return " ".repeat(many);
    }

    // ---- promise 1: "No LANE, no RULES, none IN FORCE."

    private static void nothingIsThere() {
        NEW.stays("order()", -1, LeapLane::order);
        NEW.stays("child(0, 0)", -1, x -> x.child(0, 0));
        NEW.stays("turn()", -1, LeapLane::turn);
        NEW.stays("leap(0, 1)", -1, x -> x.leap(0, 1));
        NEW.stays("stoop(0, 1)", -1, x -> x.stoop(0, 1));
        NEW.stays("breath(0, 1)", -1, x -> x.breath(0, 1));
        NEW.stays("front(0)", -1, x -> x.front(0));
        NEW.stays("undo()", -1, LeapLane::undo);
        NEW.stays("force(0)", -2, x -> x.force(0));
        NEW.stays("force(NONE)", -1, x -> x.force(-1));
        NEW.stays("end(1)", -1, x -> x.end(1));
        NEW.stays("end(0)", 0, x -> x.end(0));
        NEW.stays("lane() of an empty tape", Told.fault(0, 0), LeapLane::lane);
        NEW.stays("rule() of an empty tape", Told.fault(0, 0), LeapLane::rule);
    }

    private static void nothingCanBeAsked() {
        NEW.stays("fewest(0)", -1, x -> x.fewest(0));
        NEW.stays("fewest(1)", -1, x -> x.fewest(1));
        NEW.stays("step(0, 0, 0)", -1, x -> x.step(0, 0, 0));
        NEW.stays("orders(0)", -1, x -> x.orders(0));
        NEW.stays("orders(30)", -1, x -> x.orders(30));
        NEW.stays("farthest(0)", -1, x -> x.farthest(0));
        NEW.stays("farthest(1)", -1, x -> x.farthest(1));
        NEW.stays("first(0)", -1, x -> x.first(0));
        NEW.stays("behind(0)", -1, x -> x.behind(0));
        NEW.stays("sources()", -1, LeapLane::sources);
        NEW.stays("ahead(0, 0, 0)", -1, x -> x.ahead(0, 0, 0));
        NEW.stays("ahead(0, 0, 1)", -1, x -> x.ahead(0, 0, 1));
        NEW.stays("ahead(0, 0, 2)", -1, x -> x.ahead(0, 0, 2));
        NEW.stays("leads(0)", -1, x -> x.leads(0));
        NEW.stays("stuck()", -1, LeapLane::stuck);
        NEW.stays("given(1, 0)", -2, x -> x.given(1, 0));
        NEW.stays("given(1, 1)", -2, x -> x.given(1, 1));
        NEW.stays("leapsOf(0)", -1, x -> x.leapsOf(0));
        NEW.stays("backsOf(0)", -1, x -> x.backsOf(0));
        NEW.stays("rests(0, 1, 1, 0)", -1, x -> x.rests(0, 1, 1, 0));
        NEW.stays("alike(0)", -1, x -> x.alike(0));
        NEW.stays("alike(1)", -1, x -> x.alike(1));
        NEW.stays("pence(0, 0)", -1, x -> x.pence(0, 0));
        NEW.stays("note(0, 0)", -2, x -> x.note(0, 0));
        NEW.stays("note(NONE, 0)", 0, x -> x.note(-1, 0));
        NEW.stays("ruled(0)", -3, x -> x.ruled(0));
        NEW.stays("ruled(1)", -3, x -> x.ruled(1));
        NEW.stays("look(0)", -1, x -> x.look(0));
        NEW.stays("look(1)", -1, x -> x.look(1));
        NEW.stays("stumbles(1, 1, 0, 0)", -1, x -> x.stumbles(1, 1, 0, 0));
        NEW.stays("stumbles(1, 1, 0, 1)", -1, x -> x.stumbles(1, 1, 0, 1));
        for (int image = 0; image < 4; image++) {
            int k = image;
            NEW.stays("back(" + k + ")", -1, x -> x.back(k));
        }
    }

    /** What one object does, another one does not see. */
    private static void newBesideOthers() {
        LeapLane other = Edges.lived("leap 1");
        LeapLane x = new LeapLane();
        T.alike("beside another object", Edges.state(new LeapLane()), Edges.state(x));
        Told.lane(x, TWO);
        T.due("the other's lane", 3, other.count(1));
        T.due("the other's tape", 6, other.count(11));
    }

    // ---- promise 2: "Twenty bytes come behind the TAPE, of each number the highest first"

    private static void feeds() {
        LeapLane x = new LeapLane();
        T.due("feed of the least numbers", 20, x.feed(Integer.MIN_VALUE, Integer.MIN_VALUE, -1, -1, Integer.MIN_VALUE));
        T.due("feed of the greatest", 40, x.feed(Integer.MAX_VALUE, Integer.MAX_VALUE, 0, 1, Integer.MAX_VALUE));
        T.due("its first byte is 128", Told.fault(0, 0), x.lane());
        // "lane" and " 3" are behind one another, though what was behind the cut is fed anew
        Told.put(x, "lane 5;child 1 1 1");
        T.due("end(4)", 4, x.end(4));
        T.due("feed behind four", 24, x.feed(0x2033203b, 0x6368696c, 0x64203720, 0x38203920, 0x20202020));
        T.due("lane of both", 1, x.lane());
        T.due("its spring", 3, x.count(0));
        T.due("its back", 7, x.child(0, 0));
        T.due("its breath", 9, x.child(0, 2));
        // the lowest byte of the fifth number is the twentieth
        T.due("feed", 20, x.feed(0x6c616e65, 0x20202020, 0x20202020, 0x20202020, 0x20202034));
        T.due("lane to the twentieth byte", 0, x.lane());
        T.due("its spring", 4, x.count(0));
    }

    /** "NONE, and none comes, if it would have more than 400." */
    private static void feedTo400() {
        LeapLane x = new LeapLane();
        for (int many = 20; many <= 380; many += 20) {
            T.due("feed", many, x.feed(0x20202020, 0x20202020, 0x20202020, 0x20202020, 0x20202020));
        }
        T.due("feed to 400", 400, x.feed(0x6c616e65, 0x20202020, 0x20202020, 0x20202020, 0x20202036));
        T.due("lane of 400 bytes", 0, x.lane());
        T.due("its spring", 6, x.count(0));
        for (int bytes : new int[] {381, 382, 399, 400}) {
            String text = "lane 2;child 3 4 5" + blanks(bytes - 18);
            new Edges(T, () -> Edges.lived(text)).stays("feed behind " + bytes, -1, y -> y.feed(1, 2, 3, 4, 5));
        }
        LeapLane z = Edges.lived("lane 2;child 3 4 5" + blanks(380 - 18));
        T.due("feed behind 380", 400, z.feed(0x3b636869, 0x6c642031, 0x20312030, 0x20202020, 0x20202020));
        T.due("lane of both", 2, z.lane());
        T.due("a tape that was read takes 20 again", 20, z.feed(0, 0, 0, 0, 0));
    }

    // ---- promise 3: "The TAPE has its first n bytes alone: n; NONE .. if it has not so many, or n is below 0."

    private static void ends() {
        String text = "lane 3;child 1 2 3;child 4 5 6";
        Edges thirty = new Edges(T, () -> Edges.lived(text));
        thirty.outside("end", 0, 30, -1, LeapLane::end);
        thirty.stays("end(30)", 30, x -> x.end(30));
        new Edges(T, () -> Edges.lived()).outside("end of an empty tape", 0, 0, -1, LeapLane::end);
        new Edges(T, () -> Edges.lived(text + blanks(370))).outside("end of 400", 0, 400, -1, LeapLane::end);
        LeapLane x = Edges.lived(text);
        T.due("end(29)", 29, x.end(29));
        T.due("end(30) behind it", -1, x.end(30));
        T.due("lane of 29 bytes", Told.fault(29, 0), x.lane());
        LeapLane y = Edges.lived(text);
        T.due("end(18)", 18, y.end(18));
        T.due("lane of 18 bytes", 1, y.lane());
        LeapLane z = Edges.lived(text);
        T.due("end(0)", 0, z.end(0));
        T.due("end(1) behind it", -1, z.end(1));
        T.due("end(0) again", 0, z.end(0));
        T.due("lane of no bytes", Told.fault(0, 0), z.lane());
    }

    // ---- promise 4 and LANE

    private static void badLane(String text, int place, int kind) {
        LIVED.stays("lane '" + text + "'", Told.fault(place, kind), x -> Told.lane(x, text));
    }

    private static LeapLane goodLane(String text, int spring, int children) {
        LeapLane x = Edges.lived();
        T.due("lane '" + text + "'", children, Told.lane(x, text));
        T.due("its tape", 0, x.count(11));
        T.due("its spring", spring, x.count(0));
        T.due("its children", children, x.count(1));
        return x;
    }

    private static void oneChild(String numbers, int back, int leap, int breath) {
        LeapLane x = goodLane("lane 1;child " + numbers, 1, 1);
        T.due("its back", back, x.child(0, 0));
        T.due("its leap", leap, x.child(0, 1));
        T.due("its breath", breath, x.child(0, 2));
    }

    /** "SPRING 1 to 6", "BACK 1 to 20; LEAP 1 to 20; BREATH 0 to 30". */
    private static void numbersOfLanes() {
        for (int spring = 1; spring <= 6; spring++) {
            goodLane("lane " + spring, spring, 0);
        }
        badLane("lane 0", 5, 1);
        badLane("lane 00", 5, 1);
        badLane("lane 7", 5, 1);
        badLane("lane 10", 5, 1);
        badLane("lane 99999", 5, 1);
        oneChild("1 1 0", 1, 1, 0);
        oneChild("20 20 30", 20, 20, 30);
        oneChild("1 20 1", 1, 20, 1);
        oneChild("20 1 29", 20, 1, 29);
        badLane("lane 1;child 0 5 5", 13, 1);
        badLane("lane 1;child 21 5 5", 13, 1);
        badLane("lane 1;child 99999 5 5", 13, 1);
        badLane("lane 1;child 5 0 5", 15, 1);
        badLane("lane 1;child 5 21 5", 15, 1);
        badLane("lane 1;child 5 99999 5", 15, 1);
        badLane("lane 1;child 5 5 31", 17, 1);
        badLane("lane 1;child 5 5 99999", 17, 1);
        badLane("lane 1;child 5 5 -1", 17, 0);
    }

    /** "NUMBER (1 to 5 digits, as far as digits go on)". */
    private static void digitsOfLanes() {
        goodLane("lane 00006", 6, 0);
        badLane("lane 000006", 5, 1);
        badLane("lane 0000000000000000000000000000000000006", 5, 1);
        badLane("lane 4294967297", 5, 1);
        badLane("lane 65537", 5, 1);
        oneChild("00001 00020 00000", 1, 20, 0);
        badLane("lane 1;child 000001 1 1", 13, 1);
        badLane("lane 1;child 1 000001 1", 15, 1);
        badLane("lane 1;child 1 1 000001", 17, 1);
        badLane("lane 1;child 1 1 4294967296", 17, 1);
        badLane("lane 1 2", 7, 0);
        badLane("lane 1;child 123 1", 13, 1);
        badLane("lane 1;child 12 12", 18, 0);
        badLane("lane 1;child 1212", 13, 1);
        badLane("lane .5", 5, 0);
        badLane("lane 5.", 6, 0);
    }

    /** "lane .. once, the first CLAUSE"; "CHILDREN 0 to 6"; "an eighth CHILD (at its first byte)"; "40 at most". */
    private static void clausesOfLanes() {
        goodLane("lane 3", 3, 0);
        goodLane("lane 3;child 1 1 1", 3, 1);
        LeapLane seven = goodLane("lane 3;child 1 1 1;child 2 2 2;child 3 3 3;child 4 4 4;child 5 5 5;child 6 6 6;child 7 7 7", 3, 7);
        T.due("in the order told", 1234567, seven.order());
        for (int child = 0; child < 7; child++) {
            T.due("place of child " + child, child, seven.child(child, 3));
            T.due("back of child " + child, child + 1, seven.child(child, 0));
        }
        String full = "lane 3" + ";child 1 1 1".repeat(7);
        badLane(full + ";child 1 1 1", 91, 4);
        badLane(full + ";  child", 93, 4);
        badLane(full + ";lane 3", 91, 4);
        badLane(full + ";", 91, 0);
        badLane(full + ";;", 91, 0);
        badLane(full + ";leap 1", 91, 0);
        badLane(full + " child 1 1 1", 91, 0);
        badLane("lane 3;lane 3", 7, 4);
        badLane("lane 3;child 1 1 1;lane 3", 19, 4);
        badLane("child 1 1 1", 0, 4);
        badLane("  child", 2, 4);
        badLane("child 1 1 1;lane 3", 0, 4);
        // forty CLAUSES and one more: long ahead of that the eighth CHILD, or the second lane, is one too many
        badLane("lane 3" + ";child1 1 1".repeat(35), 6 + 7 * 11 + 1, 4);
        badLane("lane1" + ";lane1".repeat(39), 6, 4);
        badLane("lane1" + ";lane1".repeat(40), 6, 4);
    }

    /** "A LANE is a text of at most 400 bytes". */
    private static void bytesOfLanes() {
        LeapLane x = goodLane("lane 1;child 1 1" + blanks(382) + "30", 1, 1);
        T.due("its last number", 30, x.child(0, 2));
        badLane("lane 1;child 1 1" + blanks(383) + ";", 399, 0);
        badLane("lane 1;child 1 1" + blanks(384), 400, 0);
        badLane(blanks(400), 400, 0);
        badLane(blanks(396) + "lane", 400, 0);
        badLane("lane 1" + blanks(393) + ";", 400, 0);
        badLane("lane 1" + blanks(393) + "x", 399, 0);
        badLane("lane " + "0".repeat(395), 5, 1);
    }

    /** "0 a byte or WORD that can't stand there, or the end (behind the last byte)". */
    private static void endsOfLanes() {
        badLane("", 0, 0);
        badLane(" ", 1, 0);
        badLane("l", 0, 0);
        badLane("lan", 0, 0);
        badLane("lane", 4, 0);
        badLane("lane  ", 6, 0);
        badLane("lane 1;", 7, 0);
        badLane("lane 1;  ", 9, 0);
        badLane("lane 1;child", 12, 0);
        badLane("lane 1;child ", 13, 0);
        badLane("lane 1;child 1", 14, 0);
        badLane("lane 1;child 1 1", 16, 0);
        badLane("lane 1;child 1 1 ", 17, 0);
        badLane("lane 1;child;", 12, 0);
        badLane("lane 1;child 1;", 14, 0);
        badLane("lane;", 4, 0);
        badLane(";", 0, 0);
        badLane(";lane 1", 0, 0);
    }

    /** "WORD (small letters, as far as these go on)"; "Blanks (32) stand between as one likes." */
    private static void wordsAndBlanksOfLanes() {
        goodLane("lane1;child1 1 1", 1, 1);
        goodLane("   lane   1   ;   child   1   1   1   ", 1, 1);
        badLane("lanelane 1", 0, 0);
        badLane("la ne 1", 0, 0);
        badLane("lane 1;chil 1 1 1", 7, 0);
        badLane("lane 1;childx 1 1 1", 7, 0);
        badLane("lane 1;children 1 1 1", 7, 0);
        badLane("lane 1;chi ld 1 1 1", 7, 0);
        badLane("lane 1;Child 1 1 1", 7, 0);
        badLane("LANE 1", 0, 0);
        badLane("lane 1;child 1 1 1x", 18, 0);
        badLane("lane one", 5, 0);
        badLane("lane lane", 5, 0);
        for (char c : new char[] {0, 9, 10, 13, 31, 33, 47, 58, 64, 91, 96, 123, 127, 128, 160, 255}) {
            badLane("lane" + c + "1", 4, 0);
            badLane("lane 1" + c, 6, 0);
            badLane(c + "lane 1", 0, 0);
            badLane("lane 1;" + c + "child 1 1 1", 7, 0);
        }
        // bytes that are signs but for their highest bit
        badLane("lane 1" + (char) (';' + 128) + "child 1 1 1", 6, 0);
        badLane("lane " + (char) ('1' + 128), 5, 0);
        badLane((char) ('l' + 128) + "ane 1", 0, 0);
    }

    /** "FAULTS, the first along the text"; "Of one place the least." */
    private static void firstFaultsOfLanes() {
        badLane("lane 7;child 0 0 31", 5, 1);
        badLane("lane 7;lane", 5, 1);
        badLane("lane 000007 x", 5, 1);
        badLane("lane 1;child 0 x", 13, 1);
        badLane("lane 1;child x 0", 13, 0);
        badLane("lane 1;child 1 21 31;lane", 15, 1);
        badLane("lane 1;child 1 1;child 1 1 31", 16, 0);
        badLane("lane 1;lane 7", 7, 4);
        badLane("child 0 0 31", 0, 4);
        badLane("childs 0", 0, 0);
        badLane("lane 1;lanes 1", 7, 0);
    }

    /** "in place of the one there was (no NOTES, nothing to be UNDONE; the RULE IN FORCE and x stay)". */
    private static void anotherLane() {
        LeapLane x = goodLane("lane 4;child 6 7 8;child 9 10 11", 4, 2);
        int[] counts = {4, 2, 2, 1, 0, 2, 0, 0, 0, 0, 77, 0};
        for (int what = 0; what < 12; what++) {
            T.due("count(" + what + ") of another lane", counts[what], x.count(what));
        }
        T.due("its undo", -1, x.undo());
        T.due("its order", 12, x.order());
        T.due("no NOTES: its leaps", 0x1ffffe, x.leapsOf(1));
        T.due("IMAGES stay", 1, x.back(2));
        T.due("that one's lane", 3, x.count(1));
        LeapLane y = goodLane("lane 4", 4, 0);
        T.due("the RULE IN FORCE without children", 1, y.count(3));
        T.due("the order without children", 0, y.order());
        T.due("TURN without children", 0, y.count(4));
    }

    // ---- promise 5 and RULES

    private static void badRule(String text, int place, int kind) {
        LIVED.stays("rule '" + text + "'", Told.fault(place, kind), x -> Told.rule(x, text));
    }

    private static void goodRule(String text) {
        LeapLane x = Edges.lived();
        T.due("rule '" + text + "'", 2, Told.rule(x, text));
        T.due("its tape", 0, x.count(11));
        T.due("rules then", 3, x.count(2));
        T.due("which is in force then", 1, x.count(3));
        T.due("acts then", 5, x.count(9));
        T.due("notes then", 2, x.count(8));
    }

    /** "RULES 0 to 5"; "NONE, and nothing happens: there are 6." */
    private static void sixRules() {
        LeapLane x = new LeapLane();
        T.due("a rule with a fault", Told.fault(4, 0), Told.rule(x, "leap"));
        for (int i = 0; i < 6; i++) {
            T.due("rule " + i, i, Told.rule(x, "leap " + i));
            T.due("rules", i + 1, x.count(2));
        }
        for (String tape : new String[] {"leap 1", "", "leap", "lane 2;child 3 4 5;child 6 7 8", "x".repeat(400)}) {
            new Edges(T, () -> withSixRules(tape)).stays("a seventh rule '" + tape + "'", -1, LeapLane::rule);
        }
        LeapLane y = withSixRules("lane 2;child 3 4 5;child 6 7 8");
        T.due("a seventh rule", -1, y.rule());
        T.due("its tape stays", 30, y.count(11));
        T.due("its tape is a lane", 2, y.lane());
        T.due("its tape is empty then", 0, y.count(11));
        LeapLane z = Edges.lived();
        for (int i = 2; i < 5; i++) {
            Told.rule(z, "leap " + i);
        }
        T.due("a sixth rule", 5, Told.rule(z, "leap 1"));
        T.due("a seventh rule", -1, Told.rule(z, "leap 1"));
    }

    private static LeapLane withSixRules(String tape) {
        LeapLane x = Edges.lived();
        for (int i = 2; i < 6; i++) {
            Told.rule(x, "leap " + i);
        }
        Told.put(x, tape);
        return x;
    }

    /** "12 CLAUSES at most". */
    private static void clausesOfRules() {
        goodRule("leap 1");
        goodRule("leap 1" + ";leap 1".repeat(10));
        goodRule("leap 1" + ";leap 1".repeat(11));
        badRule("leap 1" + ";leap 1".repeat(12), 84, 4);
        badRule("leap 1" + ";leap 1".repeat(11) + ";  leap", 86, 4);
        badRule("leap 1" + ";leap 1".repeat(11) + ";lane", 84, 0);
        badRule("leap 1" + ";leap 1".repeat(11) + ";leaps 1", 84, 0);
        badRule("leap 1" + ";leap 1".repeat(11) + ";", 84, 0);
        badRule("leap 1" + ";leap 1".repeat(11) + " leap 1", 84, 0);
        badRule("leap 1;;leap 1", 7, 0);
        badRule(";leap 1", 0, 0);
        goodRule("leap 1 if 1=1" + ";leap 1 if 1=1".repeat(11));
        badRule("leap 1 if 1=1" + ";leap 1 if 1=1".repeat(12), 14 * 12, 4);
        // the twelfth counts, and a thirteenth TEST never holds
        by(false, "leap 0 if 1=1" + ";leap 1".repeat(11));
        by(true, "leap 9 if 1=2" + ";leap 0 if 1=2".repeat(10) + ";leap 1");
        by(true, "leap 9 if 1=2" + ";leap 0 if 1=2".repeat(10) + ";leap 1 if 1=1");
        by(false, "leap 9 if 1=2" + ";leap 9 if 1=2".repeat(11));
    }

    private static String facts(int many) {
        return " if 1<2" + " or 1<2".repeat(many - 1);
    }

    /** Where the FACT behind so many others begins. */
    private static int factAt(String head, int behind) {
        return head.length() + 7 * behind + 4;
    }

    /** "at most 60 VALUES (of SUMS) and FACTS made of a SIGN, together"; "at its first byte; of a FACT at its SIGN". */
    private static void valuesOfRules() {
        goodRule("leap 1" + "+1".repeat(58));
        goodRule("leap 1" + "+1".repeat(59));
        badRule("leap 1" + "+1".repeat(60), 125, 3);
        badRule("leap 1" + "+1".repeat(59) + "  +  child", 129, 3);
        badRule("leap child" + "*child".repeat(60), 10 + 60 * 6 - 5, 3);
        badRule("leap 1" + "+1".repeat(59) + "+", 125, 0);
        badRule("leap 1" + "+1".repeat(59) + "+not", 125, 0);
        badRule("leap 1" + "+1".repeat(59) + "+000000", 125, 1);
        // FACTS: two VALUES and one of a SIGN each, so that 19 are 57
        goodRule("leap 1+1+1" + facts(19));
        badRule("leap 1+1+1+1" + facts(19), factAt("leap 1+1+1+1", 18) + 2, 3);
        badRule("leap 1" + facts(20), factAt("leap 1", 19) + 2, 3);
        badRule("leap 1+1" + facts(20), factAt("leap 1+1", 19) + 1, 3);
        badRule("leap 1+1+1" + facts(20), factAt("leap 1+1+1", 19), 3);
        badRule("leap 1+1" + facts(19) + " or 1  >=2", factAt("leap 1+1", 19) + 3, 3);
        badRule("leap 1+1" + facts(19) + " or 1  2", factAt("leap 1+1", 19) + 3, 0);
        // brackets, not, and, or are none of these
        goodRule("leap 1+1+1 if not [1<2]" + " and not [1<2]".repeat(18));
        // of all CLAUSES together
        goodRule("leap 1+1+1+1+1" + ";leap 1+1+1+1+1".repeat(11));
        badRule("leap 1+1+1+1+1" + ";leap 1+1+1+1+1".repeat(10) + ";leap 1+1+1+1+1+1", 11 * 15 + 5 + 10, 3);
    }

    /** "[ and not lie within one another 10 deep at most"; "at the sign that opens, or the word not". */
    private static void depthOfRules() {
        String good = "over>0";
        for (int opens = 0; opens <= 10; opens++) {
            goodRule("leap 1 if " + "[".repeat(opens) + "not ".repeat(10 - opens) + good + "]".repeat(opens));
            goodRule("leap 1 if " + "not ".repeat(opens) + "[".repeat(10 - opens) + good + "]".repeat(10 - opens));
            badRule("leap 1 if " + "[".repeat(opens) + "not ".repeat(10 - opens) + "not " + good, 50 - 3 * opens, 2);
            badRule("leap 1 if " + "[".repeat(opens) + "not ".repeat(10 - opens) + "[" + good, 50 - 3 * opens, 2);
            badRule("leap 1 if " + "[".repeat(opens) + "not ".repeat(10 - opens) + " ]" + good, 51 - 3 * opens, 0);
        }
        badRule("leap 1 if " + "[".repeat(400 - 10), 20, 2);
        badRule("leap 1 if " + "not ".repeat(97), 50, 2);
        // what is closed, or a FACT that ended, lies about nothing more
        String tenOpen = "[".repeat(10) + good + "]".repeat(10);
        String tenNot = "not ".repeat(10) + good;
        goodRule("leap 1 if " + tenOpen + " and " + tenNot + " or " + tenOpen + " or " + tenNot + " and " + tenNot);
        goodRule("leap 1 if " + tenNot + ";leap 1 if " + tenOpen + ";leap 1 if " + tenNot);
        goodRule("leap 1 if [" + "not ".repeat(9) + good + " and " + "not ".repeat(9) + good + "]");
        badRule("leap 1 if [" + "not ".repeat(9) + good + " and " + "not ".repeat(10) + good + "]", 11 + 36 + 11 + 36, 2);
        badRule("leap 1 if " + "[".repeat(10) + good + "]".repeat(9) + " and " + "[".repeat(10) + good, 20 + 6 + 9 + 5 + 9, 2);
        badRule("leap 1 if " + "[".repeat(10) + good + "]".repeat(9), 35, 0);
        badRule("leap 1 if " + "[".repeat(10) + good + "]".repeat(11), 36, 0);
        by(true, "leap 1 if " + tenNot);
        by(false, "leap 1 if " + "not ".repeat(9) + good);
        by(true, "leap 1 if " + tenOpen);
    }

    /** "NUMBER (1 to 5 digits, as far as digits go on)"; "a NUMBER of more digits". */
    private static void digitsOfRules() {
        goodRule("leap 0");
        goodRule("leap 99999");
        goodRule("leap 00000");
        badRule("leap 100000", 5, 1);
        badRule("leap 000000", 5, 1);
        badRule("leap " + "9".repeat(395), 5, 1);
        badRule("leap 4294967297", 5, 1);
        badRule("leap 1+000001", 7, 1);
        badRule("leap 1 if 000001<2", 10, 1);
        badRule("leap 1 if 1<000002", 12, 1);
        badRule("leap 99999 9", 11, 0);
        holds("00007=7");
        holds("99999=99998+1");
        holds("00000=0");
        holds("10000=100*100");
    }

    /** "a byte or WORD that can't stand there, or the end (behind the last byte)" at each place of a text. */
    private static void endsOfRules() {
        String text = "leap 1 + 2 if not [ 3 < 4 ] and 5 >= 6 ; leap child";
        String[] cuts = {"", "l", "lea", "leap", "leap ", "leap 1 +", "leap 1 + ", "leap 1 + 2 if", "leap 1 + 2 if ",
            "leap 1 + 2 if not", "leap 1 + 2 if not [", "leap 1 + 2 if not [ ", "leap 1 + 2 if not [ 3",
            "leap 1 + 2 if not [ 3 <", "leap 1 + 2 if not [ 3 < 4", "leap 1 + 2 if not [ 3 < 4 ", "leap 1 + 2 if not [ 3 < 4 ] and",
            "leap 1 + 2 if not [ 3 < 4 ] and 5", "leap 1 + 2 if not [ 3 < 4 ] and 5 >=", "leap 1 + 2 if not [ 3 < 4 ] and 5 >= 6 ;",
            "leap 1 + 2 if not [ 3 < 4 ] and 5 >= 6 ; "};
        for (String cut : cuts) {
            T.due("'" + cut + "' is a cut of the text", 1, text.startsWith(cut) ? 1 : 0);
            boolean word = cut.equals("l") || cut.equals("lea");
            badRule(cut, word ? 0 : cut.length(), 0);
            badRule(cut + "!", word ? 0 : cut.length(), 0);
        }
        goodRule(text);
        goodRule("leap 1 + 2 if not [ 3 < 4 ]");
        goodRule("leap 1 + 2 if not [ 3 < 4 ] and 5 >= 6");
        badRule("leap 1 + 2 if not [ 3 < 4 ] and 5 >= 6 ; lea", 41, 0);
        badRule("leap 1 + 2 if not [ 3 < 4 ] and 5 >= 6 ; leap", 45, 0);
        badRule(text + "]", 51, 0);
        badRule(text + " leap", 52, 0);
        badRule(text + " [", 52, 0);
    }

    /** "A LANE is a text of at most 400 bytes", RULES "texts likewise". */
    private static void bytesOfRules() {
        goodRule("leap" + blanks(395) + "1");
        goodRule("leap 1" + blanks(394));
        badRule("leap 1" + blanks(393) + "x", 399, 0);
        badRule("leap 1" + blanks(393) + ";", 400, 0);
        badRule("leap" + blanks(396), 400, 0);
        badRule("leap 1 if 1" + blanks(388) + "<", 400, 0);
        goodRule("leap 1 if 1" + blanks(387) + "<2");
        goodRule("leap 1 if 1" + blanks(386) + "<=2");
    }

    /** "WORD (small letters, as far as these go on)"; "Blanks (32) stand between as one likes". */
    private static void wordsAndBlanksOfRules() {
        goodRule("leap1+child*2if 3<4and not[5=6]or 7>8");
        goodRule("  leap   1  +  child  if  3  <=  4  and  not  [  5  =  6  ]  ");
        badRule("leapchild", 0, 0);
        badRule("leap childif 1<2", 5, 0);
        badRule("leap 1 ifnot 1<2", 7, 0);
        badRule("leap 1 if notnot 1<2", 10, 0);
        badRule("leap 1 if 1<2 andnot 1<2", 14, 0);
        badRule("leap 1 if 1 < = 2", 14, 0);
        badRule("leap 1 if 1 > = 2", 14, 0);
        badRule("leap 1 if 1 => 2", 13, 0);
        badRule("leap 1 if 1 <> 2", 13, 0);
        badRule("leap 1 if 1 <=> 2", 14, 0);
        badRule("leap 1 if 1 <== 2", 14, 0);
        badRule("leap 1 if 1 != 2", 12, 0);
        for (String word : new String[] {"chil", "childs", "plac", "places", "backs", "leaps", "breaths", "breat", "ove",
            "overs", "leapts", "lept", "man", "manys", "ca", "cans", "tur", "turns", "if", "not", "and", "or", "lane", "x",
            "spring", "Child"}) {
            badRule("leap " + word, 5, 0);
            badRule("leap 1+" + word, 7, 0);
            if (!word.equals("not")) {
                badRule("leap 1 if " + word, 10, 0);
            }
            badRule("leap 1 if 1<" + word, 12, 0);
        }
        for (char c : new char[] {0, 9, 10, 13, 31, 33, 46, 58, 64, 92, 96, 123, 127, 128, 160, 255}) {
            badRule("leap" + c + "1", 4, 0);
            badRule("leap 1" + c, 6, 0);
            badRule(c + "leap 1", 0, 0);
            badRule("leap 1 if" + c + "1<2", 9, 0);
            badRule("leap 1 if 1<2" + c, 13, 0);
        }
        badRule("leap 1" + (char) ('+' + 128) + "1", 6, 0);
        badRule("leap (1)", 5, 0);
        badRule("leap 1 if (1<2)", 10, 0);
    }

    /** "FAULTS, the first along the text"; "Of one place the least." */
    private static void firstFaultsOfRules() {
        badRule("leap 123456 x", 5, 1);
        badRule("leap x 123456", 5, 0);
        badRule("leap 123456 if " + "[".repeat(11), 5, 1);
        badRule("leap 1 if " + "[".repeat(11) + "123456", 20, 2);
        badRule("leap 1" + "+1".repeat(60) + " if " + "[".repeat(11), 125, 3);
        badRule("leap 1" + ";leap 1".repeat(12) + "23456", 84, 4);
        badRule("leap 1" + ";leap 1".repeat(11) + "23456;leap 1", 82, 1);
        badRule("lane 123456", 0, 0);
    }

    /** What one text came to is nothing to the next one: not its CLAUSES, VALUES, depth or brackets. */
    private static void textAfterText() {
        String[] faulty = {"leap 1 if " + "[".repeat(10), "leap 1 if " + "[".repeat(11), "leap 1 if " + "not ".repeat(10),
            "leap 1" + "+1".repeat(60), "leap 1" + ";leap 1".repeat(12), "leap 1 if [1<2 or", "leap 1 * 2 +"};
        String[] full = {"leap 1 if " + "[".repeat(10) + "1<2" + "]".repeat(10), "leap 1 if " + "not ".repeat(10) + "1<2",
            "leap 1" + "+1".repeat(59), "leap 1" + ";leap 1".repeat(11)};
        for (String bad : faulty) {
            LeapLane x = Told.of(TWO);
            for (int i = 0; i < full.length; i++) {
                int fault = Told.rule(x, bad);
                T.due("'" + bad + "' has a fault", 1, fault < -2 ? 1 : 0);
                T.due("'" + full[i] + "' behind '" + bad + "'", i, Told.rule(x, full[i]));
                T.due("'" + bad + "' has the same fault", fault, Told.rule(x, bad));
                T.due("']' behind it", Told.fault(13, 0), Told.rule(x, "leap 1 if 1<2]"));
                x.force(i);
                T.due("it is a rule", 1, x.turn());
                x.undo();
            }
        }
        behindManyFaults("leap 1 if [[1=2 or 2<3 and 4=2+1*2] and not 1=2] or 1=2", 1);
        behindManyFaults("leap 1 if [[1=2 or 2<3 and 4=2+1*3] and not 1=2] or 1=2", -2);
        behindManyFaults("leap 1 if 1=2", -2);
        behindManyFaults("leap 1-1+2*3-5", 1);
        behindManyFaults("leap 1-1+2*3-6", -2);
        LeapLane y = new LeapLane();
        for (int i = 0; i < 6; i++) {
            T.due("rule " + i + ", full", i, Told.rule(y, full[i % 2 + 2]));
        }
        LeapLane z = new LeapLane();
        T.due("a lane with a fault", Told.fault(13, 1), Told.lane(z, "lane 6;child 0 1 1"));
        T.due("a lane behind it", 7, Told.lane(z, "lane 1" + ";child 2 3 4".repeat(7)));
        T.due("a lane with a fault", Told.fault(91, 4), Told.lane(z, "lane 2" + ";child 3 4 5".repeat(8)));
        T.due("a lane behind it", 7, Told.lane(z, "lane 1" + ";child 2 3 4".repeat(7)));
    }

    private static void behindManyFaults(String rule, int who) {
        LeapLane x = Told.of(TWO);
        String open = "leap 1 if " + "[".repeat(10);
        String waiting = "leap 1+2*3 if 1<2 or 3<4 and [5<6+7*";
        for (int i = 0; i < 60; i++) {
            T.due("'" + open + "'", Told.fault(20, 0), Told.rule(x, open));
            T.due("'" + waiting + "'", Told.fault(waiting.length(), 0), Told.rule(x, waiting));
        }
        T.due("'" + rule + "' behind many faults", 0, Told.rule(x, rule));
        x.force(0);
        T.due("who leaps by '" + rule + "' behind many faults", who, x.turn());
    }

    // ---- what can stand where

    private static final String VALUES = "12 99999 child place back leap breath over leapt many can turn";
    private static final String WORKS = "+ - * / %";
    private static final String SIGNS = "< <= = >= >";
    private static final String OTHERS = "if not and or lane x lanes notand [ ] ; ( ) { } ! & | , . : # ~ ^ a z";

    private static boolean isOneOf(String sign, String signs) {
        return List.of(signs.split(" ")).contains(sign);
    }

    /**
     * Behind the begin of a RULE stands each sign of the language, and some that are none: of these some can stand
     * there, and with some of those, again, the text can end.
     */
    private static void canFollow(String begin, String can, String canEnd) {
        LeapLane x = new LeapLane();
        for (String sign : (VALUES + " " + WORKS + " " + SIGNS + " " + OTHERS).split(" ")) {
            String text = begin + " " + sign;
            if (x.count(2) == 6) {
                x = new LeapLane();
            }
            int due = Told.fault(begin.length() + 1, 0);
            if (isOneOf(sign, canEnd)) {
                due = x.count(2);
            } else if (isOneOf(sign, can)) {
                due = Told.fault(text.length(), 0);
            }
            T.due("rule '" + text + "'", due, Told.rule(x, text));
        }
        boolean value = isOneOf("child", can) || isOneOf("child", canEnd);
        T.due("a NUMBER of six digits behind '" + begin + "'", Told.fault(begin.length() + 1, value ? 1 : 0),
            Told.rule(new LeapLane(), begin + " 123456"));
    }

    private static void whatCanStandInRules() {
        for (String begin : new String[] {"", "leap 1 ;", "leap 1 if 1 < 2 ;", "leap 1 if [ 1 < 2 ] ;"}) {
            canFollow(begin, "leap", "");
        }
        for (String begin : new String[] {"leap", "leap 1 ; leap", "leap 1 +", "leap 1 * child -", "leap 1 /", "leap 1 %",
            "leap leap *", "leap 1 if 1 <", "leap 1 if 1 <=", "leap 1 if 1 =", "leap 1 if 1 >=", "leap 1 if not 1 >",
            "leap 1 if 1 < 2 +", "leap 1 if 1 < 2 or 3 = 4 *", "leap 1 if [ 1 < 2 ] and 3 >"}) {
            canFollow(begin, "", VALUES);
        }
        for (String begin : new String[] {"leap 1 if [ 1 <", "leap 1 if [ [ 1 < 2 ] and 1 =", "leap 1 if 1 +",
            "leap 1 if [ 1 *", "leap 1 if not 1 -", "leap 1 if [ 1 < 2 /", "leap 1 if 1 < 2 or 1 %"}) {
            canFollow(begin, VALUES, "");
        }
        for (String begin : new String[] {"leap 1", "leap child", "leap 1 ; leap 1", "leap 1 + 2", "leap leap"}) {
            canFollow(begin, WORKS + " if ;", "");
        }
        for (String begin : new String[] {"leap 1 if", "leap 1 if not", "leap 1 if [", "leap 1 if 1 < 2 and",
            "leap 1 if 1 < 2 or", "leap 1 if [ 1 < 2 and", "leap 1 if not not", "leap 1 if [ not"}) {
            canFollow(begin, "not [ " + VALUES, "");
        }
        for (String begin : new String[] {"leap 1 if 1", "leap 1 if child", "leap 1 if not leap", "leap 1 if [ 1",
            "leap 1 if 1 + 2", "leap 1 if 1 < 2 and 3", "leap 1 if [ 1 < 2 or 3"}) {
            canFollow(begin, WORKS + " " + SIGNS, "");
        }
        for (String begin : new String[] {"leap 1 if 1 < 2", "leap 1 if not 1 < leap", "leap 1 if 1 < 2 + 3",
            "leap 1 if 1 < 2 and 3 = 4", "leap 1 if [ 1 < 2 ] or 3 > 4"}) {
            canFollow(begin, WORKS + " and or ;", "");
        }
        canFollow("leap 1 if [ 1 < 2", WORKS + " and or", "]");
        canFollow("leap 1 if [ 1 < 2 or 3 = 4", WORKS + " and or", "]");
        canFollow("leap 1 if not [ not 1 < 2", WORKS + " and or", "]");
        canFollow("leap 1 if [ [ 1 < 2", WORKS + " and or ]", "");
        canFollow("leap 1 if [ 1 < 2 ]", "and or ;", "");
        canFollow("leap 1 if not [ 1 < 2 ]", "and or ;", "");
        canFollow("leap 1 if [ [ 1 < 2 ]", "and or", "]");
        canFollow("leap 1 if [ [ [ 1 < 2 ] ]", "and or", "]");
        canFollow("leap 1 if [ [ [ 1 < 2 ]", "and or ]", "");
    }

    /** A begin of a LANE, and at which sign it has which FAULT; -1: none there, but at the end; -2: none. */
    private static void laneFollow(String begin, int lane, int child, int number, int semicolon) {
        String[] signs = {"lane", "child", "6", ";", "leap", "x", "lanes", "children", "0000006", "+", "[", ",", "-"};
        int[] kinds = {lane, child, number, semicolon, 0, 0, 0, 0, number < 0 ? 1 : 0, 0, 0, 0, 0};
        for (int i = 0; i < signs.length; i++) {
            String text = begin + " " + signs[i];
            int due = kinds[i] >= 0 ? Told.fault(begin.length() + 1, kinds[i]) : Told.fault(text.length(), 0);
            LeapLane x = new LeapLane();
            int got = Told.lane(x, text);
            T.due("lane '" + text + "'", kinds[i] == -2 ? x.count(1) : due, got);
            T.due("it is a lane", kinds[i] == -2 ? 1 : 0, got >= 0 ? 1 : 0);
        }
    }

    private static void whatCanStandInLanes() {
        laneFollow("", -1, 4, 0, 0);
        laneFollow("lane", 0, 0, -2, 0);
        laneFollow("lane 1", 0, 0, 0, -1);
        laneFollow("lane 1 ;", 4, -1, 0, 0);
        laneFollow("lane 1 ; child", 0, 0, -1, 0);
        laneFollow("lane 1 ; child 1", 0, 0, -1, 0);
        laneFollow("lane 1 ; child 1 1", 0, 0, -2, 0);
        laneFollow("lane 1 ; child 1 1 1", 0, 0, 0, -1);
        laneFollow("lane 1 ; child 1 1 1 ;", 4, -1, 0, 0);
        laneFollow("lane 1" + " ; child 1 1 1".repeat(6) + " ;", 4, -1, 0, 0);
        laneFollow("lane 1" + " ; child 1 1 1".repeat(7), 0, 0, 0, -1);
        laneFollow("lane 1" + " ; child 1 1 1".repeat(7) + " ;", 4, 4, 0, 0);
    }

    // ---- what a RULE is worth

    private static void by(boolean leaps, String rule) {
        LeapLane x = Told.of(TWO, rule);
        x.force(0);
        T.due("who leaps by '" + rule + "'", leaps ? 1 : -2, x.turn());
    }

    private static void holds(String fact) {
        by(true, "leap 1 if " + fact);
        by(false, "leap 1 if not " + fact);
    }

    /** "/ is towards 0, % its rest, both 0 by 0". */
    private static void partsAndRests() {
        holds("7/2=3");
        holds("7%2=1");
        holds("6/2=3");
        holds("6%2=0");
        holds("7/8=0");
        holds("7%8=7");
        holds("7/1=7");
        holds("7%1=0");
        holds("0/5=0");
        holds("0%5=0");
        holds("5/0=0");
        holds("5%0=0");
        holds("0/0=0");
        holds("0%0=0");
        holds("5/0*7+1=1");
        holds("7*5%0=0");
        holds(BELOW + "/0=0");
        holds(BELOW + "%0=0");
        // -337012131482191585 / 10 is -33701213148219158, the rest -5
        holds(BELOW + "%10=0-5");
        holds(BELOW + "%10+5=0");
        holds(BELOW + "/10*10-5=" + BELOW);
        holds(BELOW + "/2*2-1=" + BELOW);
        holds(BELOW + "%2=0-1");
        holds(BELOW + "/10/10%10=0-5");
    }

    /** "all goes round in 64 bits". */
    private static void roundAbout() {
        String top = "65536*65536*65536*32768";
        holds("65536*65536*65536*16384>0");
        holds(top + "<0");
        holds(top + "-1>0");
        holds("0-" + top + "=" + top);
        holds("0-" + top + "<0");
        holds(top + "+" + top + "=0");
        holds("65536*65536*65536*65536=0");
        holds(top + "*2+1=1");
        holds(top + "*3=" + top);
        holds(top + "-1+1<0");
        holds(top + "/65536/65536/65536=0-32768");
        holds(top + "/1=" + top);
        holds(top + "%99999<0");
        holds("0-1<0");
        holds("0-1=3-4");
        by(false, "leap " + top);
        by(true, "leap " + top + "-1");
        by(false, "leap 0-" + top);
        by(false, "leap 65536*65536*65536*65536");
        by(true, "leap 65536*65536*65536*65536+1");
        by(true, "leap 65536*65536");
        by(true, "leap 65536*32768");
    }

    /** Each SIGN below, at and above; TERMS ahead of SUMS, PARTS ahead of TESTS, all else from the left. */
    private static void signs() {
        for (String fact : new String[] {"1<2", "1<=2", "2<=2", "2=2", "2>=2", "3>=2", "3>2"}) {
            holds(fact);
        }
        for (String fact : new String[] {"2<2", "3<2", "3<=2", "1=2", "3=2", "1>=2", "2>2", "1>2"}) {
            by(false, "leap 1 if " + fact);
            by(true, "leap 1 if not " + fact);
        }
        holds("1+2*3=7");
        holds("2*3+1=7");
        holds("9-3-2=4");
        holds("9-3+2=8");
        holds("24/4/2=3");
        holds("24/4*2=12");
        holds("24*2/4=12");
        holds("7*7%10=9");
        holds("7%10*7=49");
        holds("17%10/2=3");
        holds("17/2%3=2");
        for (String fact : new String[] {"3<1+3", "5<1+2*2+1", "4<=1+3", "4<=9-5", "4=1+3", "4=9-5", "4>=1+3", "4>=9-5", "4>2+1",
            "4>9-6", "1+3>3", "9-5>3", "1+3>=4", "9-5>=4", "1+3=4", "9-5=4", "1+3<=4", "9-5<=4", "1+3<5", "9-5<5", "2*3=6",
            "6=2*3", "7<2*4", "7<=2*4", "9>2*4", "9>=2*4", "7/2=7%4"}) {
            holds(fact);
        }
        holds("1+2<2*2");
        holds("2*2>1+2");
        by(true, "leap 1 if 1=1 or 1=2 and 1=2");
        by(false, "leap 1 if [1=1 or 1=2] and 1=2");
        by(true, "leap 1 if 1=2 and 1=2 or 1=1");
        by(false, "leap 1 if 1=2 and [1=2 or 1=1]");
        by(false, "leap 1 if not 1=1 or 1=2");
        by(true, "leap 1 if not 1=1 or 1=1");
        by(true, "leap 1 if not 1=2 and 1=1");
        by(false, "leap 1 if not [1=2 or 1=1]");
        by(true, "leap 1 if 1=2 or 1=2 or 1=2 or 1=1");
        by(false, "leap 1 if 1=1 and 1=1 and 1=1 and 1=2");
        by(false, "leap 1 if [1=2] or [[1=2] and 1=1]");
    }

    /** "SUM .. greatest, if it is above 0"; "(0 without)"; "the first CLAUSE without a TEST, or whose TEST holds". */
    private static void worth() {
        by(false, "leap 0-1");
        by(false, "leap 0");
        by(true, "leap 1");
        by(true, "leap 99999*99999");
        by(false, "leap 1 if 1=2");
        by(true, "leap 0 if 1=2;leap 1");
        by(false, "leap 0;leap 1");
        by(false, "leap 0 if 1=1;leap 1");
        by(false, "leap 0-1 if 1=1;leap 1 if 1=1");
        by(true, "leap 1 if 1=1;leap 0");
    }

    // ---- promise 6: "A RULE is IN FORCE (NONE: none): which was; -2, and nothing happens, if there is none such."

    private static void forces() {
        LIVED.outside("force", -1, 1, -2, LeapLane::force);
        new Edges(T, () -> withSixRules("")).outside("force", -1, 5, -2, LeapLane::force);
        new Edges(T, () -> Told.of(TWO)).outside("force without rules", -1, -1, -2, LeapLane::force);
        LIVED.stays("force of which is", 1, x -> x.force(1));
        LeapLane x = withSixRules("");
        T.due("force(5)", 1, x.force(5));
        T.due("force(0)", 5, x.force(0));
        T.due("force(NONE)", 0, x.force(-1));
        T.due("force(NONE) again", -1, x.force(-1));
        T.due("force(4)", -1, x.force(4));
        T.due("count(3)", 4, x.count(3));
        T.due("force is no act", 5, x.count(9));
        x.undo();
        T.due("undo leaves it", 4, x.count(3));
    }

    public static void main(String[] args) {
        nothingIsThere();
        nothingCanBeAsked();
        newBesideOthers();
        feeds();
        feedTo400();
        ends();
        numbersOfLanes();
        digitsOfLanes();
        clausesOfLanes();
        bytesOfLanes();
        endsOfLanes();
        wordsAndBlanksOfLanes();
        firstFaultsOfLanes();
        anotherLane();
        sixRules();
        clausesOfRules();
        valuesOfRules();
        depthOfRules();
        digitsOfRules();
        endsOfRules();
        bytesOfRules();
        wordsAndBlanksOfRules();
        firstFaultsOfRules();
        textAfterText();
        whatCanStandInRules();
        whatCanStandInLanes();
        partsAndRests();
        roundAbout();
        signs();
        worth();
        forces();
        T.close();
    }
}

import java.util.ArrayList;
import java.util.List;
import java.util.function.Supplier;

/**
 * The boundaries of promises 7 to 14 and 36 and of part II, each on both of its sides. What needs 999 TURNS or 999
 * LEAPT takes more than the 512 calls that are promised; the class keeps to the document beyond them, too.
 */
public final class ActEdgeTest {
    private static final Told T = new Told("ActEdgeTest");
    /** ORDER 132; child 0 (BACK 7, LEAP 9) is first, 2 can leap one, 1 can leap both. */
    private static final Edges LIVED = new Edges(T, Edges::lived);
    private static final Edges NO_CHILDREN = new Edges(T, () -> Told.of("lane 2", "leap 1"));
    private static final Edges ONE = new Edges(T, () -> Told.of("lane 2;child 5 6 7", "leap 1"));
    private static final Edges SEVEN = new Edges(T, ActEdgeTest::seven);

    private static LeapLane seven() {
        return Told.of("lane 6" + ";child 5 5 9".repeat(7), "leap 1");
    }

    private static LeapLane equal(int spring, int children) {
        return Told.of("lane " + spring + ";child 5 5 9".repeat(children));
    }

    // ---- promises 7, 8, 36

    private static void children() {
        for (int what = 0; what < 6; what++) {
            int w = what;
            LIVED.outside("child(., " + w + ")", 0, 2, -1, (x, v) -> x.child(v, w));
            NO_CHILDREN.outside("child(., " + w + ") without children", 0, -1, -1, (x, v) -> x.child(v, w));
            SEVEN.outside("child(., " + w + ") of seven", 0, 6, -1, (x, v) -> x.child(v, w));
        }
        LIVED.outside("child(2, .)", 0, 5, -1, (x, v) -> x.child(2, v));
        LIVED.outside("child(3, .)", 0, -1, -1, (x, v) -> x.child(3, v));
        ONE.outside("child(., 0) of one", 0, 0, -1, (x, v) -> x.child(v, 0));
        int[][] lived = {{7, 9, 2, 0, 0, 2}, {8, 8, 5, 2, 2, 1}, {4, 7, 1, 1, 1, 0}};
        int[][] one = {{5, 6, 7, 0, 0, 0}};
        for (int what = 0; what < 6; what++) {
            for (int child = 0; child < 3; child++) {
                T.due("child(" + child + ", " + what + ")", lived[child][what], Edges.lived().child(child, what));
            }
            T.due("child(0, " + what + ") of one", one[0][what], Told.of("lane 2;child 5 6 7").child(0, what));
        }
    }

    /** "0 without CHILDREN"; "NONE without a LANE". */
    private static void orders() {
        T.due("order without a lane", -1, new LeapLane().order());
        T.due("order without children", 0, Told.of("lane 1").order());
        T.due("order of one", 1, Told.of("lane 1;child 1 1 0").order());
        LeapLane x = seven();
        T.due("order of seven", 1234567, x.order());
        for (int child = 1; child < 7; child++) {
            x.front(child);
        }
        T.due("order of seven, turned round", 7654321, x.order());
        T.due("place of the last", 6, x.child(0, 3));
        T.due("place of the first", 0, x.child(6, 3));
    }

    private static void counts() {
        for (Edges e : new Edges[] {LIVED, NO_CHILDREN, ONE, SEVEN}) {
            e.outside("count", 0, 11, -1, LeapLane::count);
        }
        new Edges(T, LeapLane::new).outside("count without a lane", 0, 11, -1, LeapLane::count);
        int[] none = {2, 0, 1, -1, 0, 0, -1, 0, 0, 0, 0, 0};
        int[] one = {2, 1, 1, -1, 0, 0, 0, 0, 0, 0, 0, 0};
        int[] all = {6, 7, 1, -1, 0, 126, 0, 0, 0, 0, 0, 0};
        int[] lived = {2, 3, 2, 1, 1, 6, 0, 3, 2, 5, 77, 0};
        for (int what = 0; what < 12; what++) {
            T.due("count(" + what + ") without children", none[what], Told.of("lane 2", "leap 1").count(what));
            T.due("count(" + what + ") of one", one[what], Told.of("lane 2;child 5 6 7", "leap 1").count(what));
            T.due("count(" + what + ") of seven", all[what], seven().count(what));
            T.due("count(" + what + ")", lived[what], Edges.lived().count(what));
        }
    }

    // ---- II: who can leap, who CAN

    /** "k from 1 to SPRING": of seven alike the one at place p can leap p, SPRING at most. */
    private static void springs() {
        for (int spring = 1; spring <= 6; spring++) {
            for (int child = 0; child < 7; child++) {
                LeapLane x = equal(spring, 7);
                int over = Math.min(child, spring);
                T.due("over of " + child + " by spring " + spring, over, x.child(child, 4));
                T.due("leap one more", -1, x.leap(child, over + 1));
                T.due("no act", 0, x.count(9));
                if (over > 0) {
                    T.due("leap as many", child - over, x.leap(child, over));
                    T.due("leapt so many", over, x.child(child, 5));
                }
            }
        }
    }

    /** "have no BACK higher than their LEAP": as high is not higher; of those directly ahead all. */
    private static void backs() {
        for (int leap = 1; leap <= 20; leap++) {
            LeapLane x = Told.of("lane 1;child " + leap + " 1 1;child 1 " + leap + " 1");
            T.due("over a back as high as leap " + leap, 1, x.child(1, 4));
            T.due("who can", 2, x.count(5));
            if (leap < 20) {
                x.stoop(0, leap + 1);
                T.due("over a back one higher than leap " + leap, 0, x.child(1, 4));
                T.due("who can", 0, x.count(5));
                T.due("leap it", -1, x.leap(1, 1));
                T.due("nobody leaps", -2, x.turn());
            }
        }
        for (int high = 0; high < 6; high++) {
            LeapLane y = equal(6, 7);
            y.stoop(high, 6);
            T.due("over those behind child " + high, 5 - high, y.child(6, 4));
            T.due("leap over child " + high, -1, y.leap(6, 6 - high));
            T.due("who can", 126 & ~(2 << high), y.count(5));
            y.stoop(high, 5);
            T.due("over all", 6, y.child(6, 4));
        }
    }

    /** "One CAN, if they can leap one back and have BREATH." */
    private static void breathToLeap() {
        LeapLane x = Told.of("lane 1;child 5 5 0;child 5 5 0;child 5 5 1");
        T.due("who can with 0, 0, 1 breath", 4, x.count(5));
        T.due("over without breath", 1, x.child(1, 4));
        T.due("leap without breath", -1, x.leap(1, 1));
        T.due("leap with 1 breath", 1, x.leap(2, 1));
        T.due("breath then", 0, x.child(2, 2));
        T.due("leap with 0 breath", -1, x.leap(2, 1));
        T.due("who can", 0, x.count(5));
        T.due("nobody leaps", -2, x.turn());
        T.due("who can with 1 breath got back", 4, x.count(5));
        x.breath(1, 1);
        T.due("who can with breath given", 6, x.count(5));
        x.breath(0, 1);
        T.due("the first one never can", 6, x.count(5));
    }

    // ---- II: a TURN

    /** "greatest, if it is above 0, of several the least CHILD (none, if none is such)". */
    private static void whoLeaps() {
        // orders of four; who CAN are all but the first
        int[][] fronts = {{}, {3}, {3, 2, 1}, {1, 2, 3}};
        String[] rules = {"leap 5", "leap child", "leap child+1", "leap 4-child", "leap place", "leap 5-place",
            "leap child-2"};
        // orders 1234, 4123, 2341, 4321
        int[][] due = {{1, 3, 3, 1, 3, 1, 3}, {0, 2, 2, 0, 2, 0, -2}, {0, 3, 3, 0, 0, 2, 3}, {0, 2, 2, 0, 0, 2, -2}};
        for (int i = 0; i < fronts.length; i++) {
            for (int r = 0; r < rules.length; r++) {
                LeapLane x = Told.of("lane 3" + ";child 5 5 9".repeat(4), rules[r]);
                for (int child : fronts[i]) {
                    x.front(child);
                }
                x.force(0);
                T.due("who leaps of " + x.order() + " by '" + rules[r] + "'", due[i][r], x.turn());
                T.due("TURN then", 1, x.count(4));
            }
        }
        // greater by what 32 bits do not hold, alike in their lower halves
        LeapLane y = Told.of("lane 3" + ";child 5 5 9".repeat(4), "leap 65536*65536*child+7", "leap 0-65536*32768*child");
        y.force(0);
        T.due("the greatest in 64 bits", 3, y.turn());
        y.force(1);
        T.due("child 0 has 0, all others are below", -2, y.turn());
    }

    /** "without a RULE the one farthest back" of those who CAN. */
    private static void withoutRules() {
        LeapLane x = Told.of("lane 1;child 5 5 1;child 5 5 1;child 9 5 1;child 5 5 0;child 5 4 1");
        T.due("the last two can't, nor the one behind a high back", 2, x.turn());
        T.due("order", 13245, x.order());
        T.due("the last one is behind a back of 5", 0, x.child(4, 4));
        LeapLane y = Told.of("lane 1;child 5 5 1;child 5 5 0");
        T.due("none is such", -2, y.turn());
        LeapLane z = equal(6, 7);
        T.due("the last of seven", 6, z.turn());
        T.due("as many as they can", 7123456, z.order());
        T.due("the last of seven then", 5, z.turn());
        T.due("order", 6712345, z.order());
    }

    /** "1 BREATH less"; "(2) All others have 1 BREATH more, but so no more than was told (as it is, if it is that or more)." */
    private static void breathOfTurns() {
        // only child 3 CAN; told are 3, 0, 1, 2; given 0, 2, 0, 0
        LeapLane x = Told.of("lane 1;child 9 1 3;child 9 1 0;child 2 1 1;child 9 2 2", "leap 1 if turn < 2");
        x.breath(1, 2);
        x.force(0);
        T.due("who leaps", 3, x.turn());
        int[] then = {3, 2, 1, 1};
        for (int child = 0; child < 4; child++) {
            T.due("breath of child " + child, then[child], x.child(child, 2));
        }
        // ORDER 1243: child 2 can't leap a BACK of 9, nor 3 that of child 1
        T.due("nobody leaps", -2, x.turn());
        T.due("who leapt has 1 more", 2, x.child(3, 2));
        T.due("nobody leaps", -2, x.turn());
        T.due("no more than was told", 2, x.child(3, 2));
        T.due("more than was told stays", 2, x.child(1, 2));
        LeapLane y = Told.of("lane 1;child 1 1 30;child 1 1 1");
        y.leap(1, 1);
        for (int breath = 29; breath >= 0; breath--) {
            T.due("leap", 0, y.leap(0, 1));
            T.due("breath", breath, y.child(0, 2));
            y.front(1);
        }
        T.due("leap without breath", -1, y.leap(0, 1));
        y.stoop(1, 2);
        for (int breath = 1; breath <= 33; breath++) {
            y.turn();
            T.due("breath got back, 30 at most", Math.min(30, breath), y.child(0, 2));
        }
    }

    /** In one TURN who leaps gets no BREATH back, and one who leapt by hand does. */
    private static void breathOfLeaps() {
        LeapLane x = Told.of("lane 1;child 1 1 5;child 1 1 5;child 1 1 5");
        T.due("leap by hand", 1, x.leap(2, 1));
        T.due("TURN stays", 0, x.count(4));
        T.due("nobody gets breath", 4, x.child(2, 2));
        T.due("leap by hand", 1, x.leap(1, 1));
        T.due("nobody gets breath", 4, x.child(2, 2));
        T.due("a turn", 2, x.turn());
        T.due("1 breath less", 3, x.child(2, 2));
        T.due("1 breath more", 5, x.child(1, 2));
        T.due("as told", 5, x.child(0, 2));
    }

    /** "NONE, and nothing happens, without a LANE"; a TURN without CHILDREN is one in which nobody leaps. */
    private static void turnsOfFew() {
        new Edges(T, LeapLane::new).stays("turn() without a lane", -1, LeapLane::turn);
        LeapLane none = Told.of("lane 1");
        T.due("turn() without children", -2, none.turn());
        T.due("TURN", 1, none.count(4));
        T.due("acts", 1, none.count(9));
        T.due("undo", 0, none.undo());
        T.due("TURN", 0, none.count(4));
        LeapLane one = Told.of("lane 1;child 1 1 1", "leap 1");
        T.due("turn() of one", -2, one.turn());
        one.force(0);
        T.due("turn() of one by a rule", -2, one.turn());
        T.due("TURN", 2, one.count(4));
    }

    private static LeapLane after998() {
        LeapLane x = Told.of("lane 1;child 1 1 2;child 1 1 2", "leap 1 if turn = 1198", "leap 1 if turn = 1199",
            "leap 1 if turn < 1198", "leap 1 if turn < 1199", "leap 1 if turn > 998");
        for (int turn = 0; turn < 998; turn++) {
            x.turn();
        }
        x.note(1, 1);
        x.image(0);
        return x;
    }

    private static LeapLane after999() {
        LeapLane x = after998();
        x.turn();
        return x;
    }

    /** "TURN is 1 more (999 at most by hand; TURNS that are asked go on beyond)". */
    private static void turn999() {
        LeapLane x = after998();
        T.due("TURN", 998, x.count(4));
        T.due("turn() in TURN 998", 1, x.turn());
        T.due("TURN", 999, x.count(4));
        T.due("all leapt", 999, x.count(7));
        new Edges(T, ActEdgeTest::after999).stays("turn() in TURN 999", -1, LeapLane::turn);
        T.due("undo", 19, x.undo());
        T.due("turn() in TURN 998 again", 1, x.turn());
        T.due("leap in TURN 999", 0, x.leap(0, 1));
        T.due("breath in TURN 999", 9, x.breath(0, 8));
        T.due("stoop in TURN 999", 1, x.stoop(0, 2));
        T.due("front in TURN 999", 1, x.front(1));
        T.due("TURN stays", 999, x.count(4));
        T.due("turn() in TURN 999", -1, x.turn());
        T.due("image in TURN 999", 999, x.image(1));
        T.due("back to TURN 998", 998, x.back(0));
        T.due("turn() there", 1, x.turn());
        T.due("back to TURN 999", 999, x.back(1));
        T.due("turn() in TURN 999", -1, x.turn());
    }

    private static void askedBeyond999() {
        LeapLane x = after999();
        T.due("ahead 100 turns", 1099, x.ahead(0, 100, 2));
        T.due("leads in TURN 999", 999, x.leads(0));
        T.due("leads in TURN 1000", 1000, x.leads(1));
        T.due("never stuck", -2, x.stuck());
        T.due("alike from TURN 999 on", 999, x.alike(0));
        T.due("given 40 turns", 999 + 40, x.given(40, 1));
        T.due("stumbles 60 turns", 999 + 60, x.stumbles(1, 60, 0, 0));
        x.force(0);
        T.due("leads in TURN 1198, the 200th", 1198, x.leads(0));
        x.force(1);
        T.due("leads in TURN 1199, the 201st", -2, x.leads(0));
        x.force(2);
        T.due("stuck in TURN 1198, the 200th", 1198, x.stuck());
        x.force(3);
        T.due("stuck in TURN 1199, the 201st", -2, x.stuck());
        x.force(4);
        T.due("the word turn goes on", 1, x.ahead(0, 1, 2) - x.count(7));
        T.due("the word turn goes on", 100, x.ahead(0, 100, 2) - x.count(7));
        // from the begin on all TURNS are below 999
        x.note(-1, 0);
        x.note(60, 1);
        T.due("without a rule child 1 is first behind TURN 60", -1, x.ruled(1));
        T.due("and by the two that leap from the begin on", 3, x.ruled(0));
    }

    /** "have as many more LEAPT (999 at most)". */
    private static void leapt999() {
        LeapLane x = Edges.leapt996();
        for (int backs = 1; backs <= 6; backs++) {
            T.due("leapt", 996, x.child(6, 5));
            T.due("leap", 6 - backs, x.leap(6, backs));
            T.due("leapt, 999 at most", Math.min(999, 996 + backs), x.child(6, 5));
            T.due("all leapt", Math.min(999, 996 + backs), x.count(7));
            x.undo();
        }
        T.due("ahead 0", 996, x.ahead(0, 0, 2));
        T.due("ahead 1", 999, x.ahead(0, 1, 2));
        T.due("ahead 2: another one leaps 6", 999 + 6, x.ahead(0, 2, 2));
        T.due("a turn", 6, x.turn());
        T.due("leapt", 999, x.child(6, 5));
        for (int child = 0; child < 6; child++) {
            x.front(child);
        }
        T.due("leap at 999", 5, x.leap(6, 1));
        T.due("leapt", 999, x.child(6, 5));
        T.due("leap at 999", 0, x.leap(6, 5));
        T.due("all leapt", 999, x.count(7));
        T.due("all pence", 9999, x.pence(9999, 6));
        T.due("no pence", 0, x.pence(9999, 5));
    }

    // ---- the WORDS of a CHILD who CAN, at their least and at their most

    private static void word(Supplier<LeapLane> made, String word, int value) {
        for (int told = Math.max(0, value - 1); told <= value + 1; told++) {
            LeapLane x = made.get();
            T.due("a rule of " + word, 0, Told.rule(x, "leap 1 if " + word + "=" + told));
            x.force(0);
            T.due(word + " is " + told, told == value ? 1 : 0, x.turn() >= 0 ? 1 : 0);
        }
    }

    /** Seven, of whom that child alone has BREATH, at that place. */
    private static LeapLane alone(int child, int place, String numbers) {
        StringBuilder lane = new StringBuilder("lane 6");
        for (int c = 0; c < 7; c++) {
            lane.append(";child ").append(c == child ? numbers : "1 20 0");
        }
        LeapLane x = Told.of(lane.toString());
        x.front(child);
        for (int c = 0, moved = 0; moved < place; c++) {
            if (c != child) {
                x.front(c);
                moved++;
            }
        }
        return x;
    }

    private static void words() {
        for (int c = 0; c < 7; c++) {
            int child = c;
            word(() -> alone(child, 3, "1 1 1"), "child", child);
        }
        for (int p = 1; p < 7; p++) {
            int place = p;
            word(() -> alone(4, place, "1 1 1"), "place", place);
            word(() -> alone(4, place, "1 1 1"), "over", place);
            word(() -> equal(place, place + 1), "can", place);
            word(() -> equal(place, place + 1), "many", place + 1);
        }
        word(() -> alone(2, 5, "1 1 1"), "many", 7);
        word(() -> alone(2, 5, "1 1 1"), "can", 1);
        for (int number : new int[] {1, 2, 19, 20}) {
            word(() -> alone(2, 5, number + " 10 1"), "back", number);
            word(() -> alone(2, 5, "10 " + number + " 1"), "leap", number);
            word(() -> alone(2, 5, "10 11 " + number), "breath", number);
        }
        word(() -> alone(2, 5, "1 1 30"), "breath", 30);
        word(ActEdgeTest::breath60, "breath", 60);
        word(() -> alone(2, 5, "1 1 1"), "leapt", 0);
        word(ActEdgeTest::leapt6, "leapt", 6);
        word(ActEdgeTest::leapt999Behind, "leapt", 999);
        word(() -> alone(2, 5, "1 1 1"), "turn", 0);
        word(() -> Told.of("lane 1;child 1 1 0;child 1 1 1"), "turn", 0);
        word(ActEdgeTest::turn7, "turn", 7);
        word(ActEdgeTest::turn998, "turn", 998);
        // a BACK that was stooped, not that of the text
        word(ActEdgeTest::stooped, "back", 20);
    }

    private static LeapLane breath60() {
        LeapLane x = alone(2, 5, "1 1 30");
        for (int i = 0; i < 4; i++) {
            x.breath(2, 9);
        }
        return x;
    }

    private static LeapLane leapt6() {
        LeapLane x = alone(2, 6, "1 1 2");
        x.leap(2, 6);
        x.front(0);
        return x;
    }

    private static LeapLane leapt999Behind() {
        LeapLane x = Edges.leapt996();
        x.leap(6, 3);
        return x;
    }

    private static LeapLane turn7() {
        LeapLane x = Told.of("lane 1;child 1 1 0;child 1 1 0");
        for (int i = 0; i < 7; i++) {
            x.turn();
        }
        x.breath(1, 1);
        return x;
    }

    private static LeapLane turn998() {
        LeapLane x = Told.of("lane 1;child 1 1 2;child 1 1 2");
        for (int i = 0; i < 998; i++) {
            x.turn();
        }
        return x;
    }

    private static LeapLane stooped() {
        LeapLane x = alone(2, 5, "10 10 1");
        x.stoop(2, 20);
        return x;
    }

    // ---- promises 10 to 13

    private static void leaps() {
        LIVED.outside("leap(0, .), the first", 1, 0, -1, (x, v) -> x.leap(0, v));
        LIVED.outside("leap(1, .)", 1, 2, -1, (x, v) -> x.leap(1, v));
        LIVED.outside("leap(2, .)", 1, 1, -1, (x, v) -> x.leap(2, v));
        LIVED.outside("leap(., 1)", 0, 2, -1, (x, v) -> x.leap(v, 1));
        NO_CHILDREN.outside("leap(., 1) without children", 0, -1, -1, (x, v) -> x.leap(v, 1));
        ONE.outside("leap(0, .) of one", 1, 0, -1, (x, v) -> x.leap(0, v));
        SEVEN.outside("leap(6, .) of seven", 1, 6, -1, (x, v) -> x.leap(6, v));
        SEVEN.outside("leap(., 1) of seven", 0, 6, -1, (x, v) -> x.leap(v, 1));
        T.due("leap(2, 1)", 0, Edges.lived().leap(2, 1));
        T.due("leap(1, 1)", 1, Edges.lived().leap(1, 1));
        T.due("leap(1, 2)", 0, Edges.lived().leap(1, 2));
        LeapLane x = Edges.lived();
        x.leap(1, 2);
        T.due("order", 213, x.order());
        T.due("leapt 2 more", 3, x.child(1, 5));
        T.due("1 breath less", 4, x.child(1, 2));
        T.due("TURN stays", 1, x.count(4));
        T.due("acts", 6, x.count(9));
        T.due("nobody else leapt", 5, x.count(7));
        T.due("breath of the others", 3, x.child(0, 2) + x.child(2, 2));
    }

    /** "STOOP (a CHILD has another BACK, 1 to 20)". */
    private static void stoops() {
        int[] backs = {7, 8, 4};
        for (int c = 0; c < 3; c++) {
            int child = c;
            LIVED.outside("stoop(" + c + ", .)", 1, 20, -1, (x, v) -> x.stoop(child, v));
            LIVED.stays("stoop to what it is", -1, x -> x.stoop(child, backs[child]));
            for (int back = 1; back <= 20; back++) {
                if (back != backs[c]) {
                    LeapLane x = Edges.lived();
                    T.due("stoop(" + c + ", " + back + ")", backs[c], x.stoop(c, back));
                    T.due("its back", back, x.child(c, 0));
                    T.due("acts", 6, x.count(9));
                    T.due("stoop again", -1, x.stoop(c, back));
                }
            }
        }
        LIVED.outside("stoop(., 5)", 0, 2, -1, (x, v) -> x.stoop(v, 5));
        NO_CHILDREN.outside("stoop(., 5) without children", 0, -1, -1, (x, v) -> x.stoop(v, 5));
        SEVEN.outside("stoop(., 6) of seven", 0, 6, -1, (x, v) -> x.stoop(v, 6));
        T.due("stoop of the seventh", 5, seven().stoop(6, 20));
    }

    /** "BREATH (a CHILD has 1 to 9 more, 60 at most)". */
    private static void breaths() {
        LIVED.outside("breath(1, .)", 1, 9, -1, (x, v) -> x.breath(1, v));
        LIVED.outside("breath(., 5)", 0, 2, -1, (x, v) -> x.breath(v, 5));
        NO_CHILDREN.outside("breath(., 5) without children", 0, -1, -1, (x, v) -> x.breath(v, 5));
        SEVEN.outside("breath(., 5) of seven", 0, 6, -1, (x, v) -> x.breath(v, 5));
        for (int much = 1; much <= 9; much++) {
            T.due("breath(1, " + much + ")", 5 + much, Edges.lived().breath(1, much));
        }
        for (int much = 1; much <= 9; much++) {
            LeapLane x = Told.of("lane 1;child 1 1 30");
            for (int breath = 39; breath <= 57; breath += 9) {
                T.due("breath", breath, x.breath(0, 9));
            }
            T.due("57 and " + much + ", 60 at most", Math.min(60, 57 + much), x.breath(0, much));
            T.due("acts", 4, x.count(9));
            T.due("60 at most", 60, x.breath(0, 9));
            T.due("it has", 60, x.child(0, 2));
            T.due("undo", 4, x.undo());
            T.due("as it was", Math.min(60, 57 + much), x.child(0, 2));
        }
        LeapLane y = Told.of("lane 1;child 1 1 0");
        T.due("0 and 1", 1, y.breath(0, 1));
        y.turn();
        T.due("more than was told stays", 1, y.child(0, 2));
    }

    /** "FRONT (a CHILD who is not is first, all who were ahead are one behind)". */
    private static void fronts() {
        LIVED.outside("front", 1, 2, -1, LeapLane::front);
        NO_CHILDREN.outside("front without children", 0, -1, -1, LeapLane::front);
        ONE.outside("front of one", 0, -1, -1, LeapLane::front);
        SEVEN.outside("front of seven", 1, 6, -1, LeapLane::front);
        int[] orders = {0, 2134567, 3124567, 4123567, 5123467, 6123457, 7123456};
        for (int child = 1; child < 7; child++) {
            LeapLane x = seven();
            T.due("front(" + child + ")", child, x.front(child));
            T.due("order", orders[child], x.order());
            T.due("no breath is spent", 9, x.child(child, 2));
            T.due("nobody leapt", 0, x.count(7));
            T.due("TURN stays", 0, x.count(4));
            T.due("acts", 1, x.count(9));
            T.due("front again", -1, x.front(child));
            T.due("acts", 1, x.count(9));
            T.due("front(0)", 1, x.front(0));
        }
    }

    // ---- promise 14: "The last 20 can be UNDONE, the last first."

    private static void undone() {
        new Edges(T, LeapLane::new).stays("undo() without a lane", -1, LeapLane::undo);
        NO_CHILDREN.stays("undo() of nothing", -1, LeapLane::undo);
        SEVEN.stays("undo() of nothing", -1, LeapLane::undo);
        for (int many = 1; many <= 45; many++) {
            LeapLane x = Told.of("lane 1;child 1 1 0");
            for (int act = 1; act <= many; act++) {
                x.stoop(0, act % 20 + 1);
                T.due("acts of " + act, Math.min(20, act), x.count(9));
            }
            int kept = Math.min(20, many);
            for (int left = kept - 1; left >= 0; left--) {
                T.due("undo of " + many, left, x.undo());
                T.due("back of " + many, (many - kept + left) % 20 + 1, x.child(0, 0));
            }
            T.due("undo of nothing", -1, x.undo());
        }
    }

    /** Acts and undos by turns, so that what is kept goes round: compared with a list that is cut at its begin. */
    private static void undoneByTurns() {
        LeapLane x = Told.of("lane 1;child 1 1 0");
        List<Integer> kept = new ArrayList<>();
        int back = 1;
        int[] plan = {15, -7, 13, -20, 5, -6, 22, -1, 1, -3, 9, -25, 20, -20, 21, -10, 30, -21};
        for (int many : plan) {
            for (int i = 0; i < many; i++) {
                kept.add(back);
                if (kept.size() > 20) {
                    kept.remove(0);
                }
                back = back % 20 + 1;
                x.stoop(0, back);
            }
            for (int i = 0; i < -many; i++) {
                T.due("undo", kept.size() - 1, x.undo());
                if (!kept.isEmpty()) {
                    back = kept.remove(kept.size() - 1);
                }
                T.due("back", back, x.child(0, 0));
            }
            T.due("acts", kept.size(), x.count(9));
        }
    }

    /** Each kind of ACT is one, and what is UNDONE is all that it did; what is refused is none. */
    private static void eachActUndone() {
        LeapLane x = Told.of("lane 2;child 5 9 3;child 8 8 2;child 4 7 1");
        List<List<String>> states = new ArrayList<>();
        states.add(Edges.state(x));
        T.due("a turn", 1, x.turn());
        states.add(Edges.state(x));
        T.due("leap", 0, x.leap(0, 1));
        states.add(Edges.state(x));
        T.due("stoop", 8, x.stoop(1, 20));
        states.add(Edges.state(x));
        T.due("breath", 10, x.breath(2, 9));
        states.add(Edges.state(x));
        T.due("front", 2, x.front(2));
        states.add(Edges.state(x));
        T.due("a turn in which nobody leaps", -2, Told.of("lane 1").turn());
        x.leap(2, 1);
        x.stoop(1, 20);
        x.breath(2, 10);
        x.front(2);
        x.leap(9, 9);
        T.alike("behind what is refused", states.get(5), Edges.state(x));
        for (int left = 4; left >= 0; left--) {
            T.due("undo", left, x.undo());
            T.alike("behind undo", states.get(left), Edges.state(x));
        }
        T.due("undo of nothing", -1, x.undo());
        T.alike("behind undo of nothing", states.get(0), Edges.state(x));
    }

    public static void main(String[] args) {
        children();
        orders();
        counts();
        springs();
        backs();
        breathToLeap();
        whoLeaps();
        withoutRules();
        breathOfTurns();
        breathOfLeaps();
        turnsOfFew();
        turn999();
        askedBeyond999();
        leapt999();
        words();
        leaps();
        stoops();
        breaths();
        fronts();
        undone();
        undoneByTurns();
        eachActUndone();
        T.close();
    }
}

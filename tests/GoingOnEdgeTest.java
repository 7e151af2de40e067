import java.util.ArrayList;
import java.util.List;

/** The boundaries of promises 22 to 25 and 28 to 30, of how it goes on, each on both of its sides. */
public final class GoingOnEdgeTest {
    private static final Told T = new Told("GoingOnEdgeTest");
    /**
     * ORDER 132 in TURN 1, by "leap child": in TURN 1 child 2 leaps one (312), in TURN 2 child 1 leaps two (231), in
     * TURN 3 child 0 could leap, but is worth 0: nobody leaps, and so on for ever.
     */
    private static final Edges LIVED = new Edges(T, Edges::lived);
    private static final Edges NO_CHILDREN = new Edges(T, () -> Told.of("lane 2"));
    private static final Edges ONE = new Edges(T, () -> Told.of("lane 2;child 5 6 7"));
    /** Child 1 leaps in TURN 0, child 0 in TURN 1, and so on by turns. */
    private static final String TWO = "lane 1;child 1 1 5;child 1 1 5";
    private static final Edges BY_TURNS = new Edges(T, () -> Told.of(TWO));

    private static LeapLane forced(String lane, String rule) {
        LeapLane x = Told.of(lane, rule);
        x.force(0);
        return x;
    }

    // ---- promise 22: "AHEAD n TURNS (0 to 100): the ORDER; BREATH of a CHILD; how many backs all LEAPT"

    private static void ahead() {
        int[] orders = {132, 312, 231, 231};
        int[] leapt = {3, 4, 6, 6};
        int[][] breath = {{2, 3, 3, 3}, {5, 5, 4, 4}, {1, 0, 1, 1}};
        for (int turns : new int[] {0, 1, 2, 3, 4, 99, 100}) {
            int then = Math.min(3, turns);
            LIVED.stays("ahead(0, " + turns + ", 0)", orders[then], x -> x.ahead(0, turns, 0));
            LIVED.stays("ahead(0, " + turns + ", 2)", leapt[then], x -> x.ahead(0, turns, 2));
            for (int c = 0; c < 3; c++) {
                int child = c;
                LIVED.stays("ahead(" + c + ", " + turns + ", 1)", breath[c][then], x -> x.ahead(child, turns, 1));
            }
            NO_CHILDREN.stays("ahead(0, " + turns + ", 0) without children", 0, x -> x.ahead(0, turns, 0));
            NO_CHILDREN.stays("ahead(0, " + turns + ", 1) without children", -1, x -> x.ahead(0, turns, 1));
            NO_CHILDREN.stays("ahead(0, " + turns + ", 2) without children", 0, x -> x.ahead(0, turns, 2));
            ONE.stays("ahead(0, " + turns + ", 0) of one", 1, x -> x.ahead(0, turns, 0));
            ONE.stays("ahead(0, " + turns + ", 1) of one", 7, x -> x.ahead(0, turns, 1));
        }
        for (int w = 0; w < 3; w++) {
            int what = w;
            LIVED.outside("ahead(0, ., " + w + ")", 0, 100, -1, (x, v) -> x.ahead(0, v, what));
            NO_CHILDREN.outside("ahead(0, ., " + w + ") without children", 0, 100, -1, (x, v) -> x.ahead(0, v, what));
        }
        LIVED.outside("ahead(0, 0, .)", 0, 2, -1, (x, v) -> x.ahead(0, 0, v));
        LIVED.outside("ahead(., 1, 1)", 0, 2, -1, (x, v) -> x.ahead(v, 1, 1));
        NO_CHILDREN.outside("ahead(., 1, 1) without children", 0, -1, -1, (x, v) -> x.ahead(v, 1, 1));
        ONE.outside("ahead(., 1, 1) of one", 0, 0, -1, (x, v) -> x.ahead(v, 1, 1));
        // "child is asked for the second one alone"
        LIVED.outside("ahead(., 1, 0)", 0, 2, 312, (x, v) -> x.ahead(v, 1, 0));
        LIVED.outside("ahead(., 1, 2)", 0, 2, 4, (x, v) -> x.ahead(v, 1, 2));
        NO_CHILDREN.outside("ahead(., 1, 0) without children", 0, 0, 0, (x, v) -> x.ahead(v, 1, 0));
        // so many TURNS, not one more
        LeapLane x = forced(TWO, "leap 1 if turn = 99");
        T.due("99 turns, to TURN 98", 0, x.ahead(0, 99, 2));
        T.due("100 turns, to TURN 99", 1, x.ahead(0, 100, 2));
        T.due("100 turns, to TURN 99", 21, x.ahead(0, 100, 0));
        LeapLane y = forced(TWO, "leap 1 if turn = 100");
        T.due("100 turns, not TURN 100", 0, y.ahead(0, 100, 2));
        y.turn();
        T.due("100 turns from TURN 1 on", 1, y.ahead(0, 100, 2));
        T.due("99 turns from TURN 1 on", 0, y.ahead(0, 99, 2));
    }

    // ---- promises 23 and 24

    /** "LEADS of a CHILD: the first TURN, this one the first, of 200, behind which they are first." */
    private static void leads() {
        LIVED.outside("leads", 0, 2, -1, LeapLane::leads);
        NO_CHILDREN.outside("leads without children", 0, -1, -1, LeapLane::leads);
        ONE.outside("leads of one", 0, 0, -1, LeapLane::leads);
        ONE.stays("leads of one", 0, x -> x.leads(0));
        LIVED.stays("leads(0), who is first now, but never then", -2, x -> x.leads(0));
        LIVED.stays("leads(1)", 2, x -> x.leads(1));
        LIVED.stays("leads(2)", 1, x -> x.leads(2));
        for (int turns : new int[] {0, 1, 57}) {
            for (int when : new int[] {198, 199, 200, 201}) {
                LeapLane x = forced(TWO, "leap 1 if turn = " + (turns + when));
                for (int i = 0; i < turns; i++) {
                    x.turn();
                }
                T.due("leads " + when + " turns from TURN " + turns, when < 200 ? turns + when : -2, x.leads(1));
                T.due("who is first leads behind this TURN", turns, x.leads(0));
            }
        }
    }

    /** "STUCK: the first TURN, this one the first, of 200, in which nobody leaps." */
    private static void stuck() {
        LIVED.stays("stuck()", 3, LeapLane::stuck);
        NO_CHILDREN.stays("stuck() without children", 0, LeapLane::stuck);
        ONE.stays("stuck() of one", 0, LeapLane::stuck);
        BY_TURNS.stays("stuck() of who leap by turns", -2, LeapLane::stuck);
        for (int turns : new int[] {0, 1, 57}) {
            for (int when : new int[] {0, 1, 198, 199, 200, 201}) {
                LeapLane x = forced(TWO, "leap 1 if not turn = " + (turns + when));
                for (int i = 0; i < turns; i++) {
                    x.turn();
                }
                T.due("stuck " + when + " turns from TURN " + turns, when < 200 ? turns + when : -2, x.stuck());
            }
        }
    }

    // ---- promise 25

    /** "GIVEN n TURNS (1 to 40)"; "NONE: nobody"; "-2 without these, or a LANE". */
    private static void givenTurns() {
        int[] then = {0, 4, 6, 6};
        for (int turns : new int[] {1, 2, 3, 39, 40}) {
            LIVED.stays("given(" + turns + ", 0)", -1, x -> x.given(turns, 0));
            LIVED.stays("given(" + turns + ", 1)", then[Math.min(3, turns)], x -> x.given(turns, 1));
            NO_CHILDREN.stays("given(" + turns + ", 0) without children", -1, x -> x.given(turns, 0));
            NO_CHILDREN.stays("given(" + turns + ", 1) without children", 0, x -> x.given(turns, 1));
            ONE.stays("given(" + turns + ", 0) of one", -1, x -> x.given(turns, 0));
            ONE.stays("given(" + turns + ", 1) of one", 0, x -> x.given(turns, 1));
        }
        for (int w = 0; w < 2; w++) {
            int what = w;
            LIVED.outside("given(., " + w + ")", 1, 40, -2, (x, v) -> x.given(v, what));
            NO_CHILDREN.outside("given(., " + w + ") without children", 1, 40, -2, (x, v) -> x.given(v, what));
        }
        LIVED.outside("given(1, .)", 0, 1, -2, (x, v) -> x.given(1, v));
        LIVED.outside("given(40, .)", 0, 1, -2, (x, v) -> x.given(40, v));
        NO_CHILDREN.outside("given(1, .) without children", 0, 1, -2, (x, v) -> x.given(1, v));
        new Edges(T, LeapLane::new).outside("given(., 0) without a lane", 1, 0, -2, (x, v) -> x.given(v, 0));
        // so many TURNS, not one more
        for (int when : new int[] {38, 39, 40}) {
            LeapLane x = forced(TWO, "leap 1 if turn = " + when);
            T.due("given(39, 1), who leap in TURN " + when, when < 39 ? 1 : 0, x.given(39, 1));
            T.due("given(40, 1), who leap in TURN " + when, when < 40 ? 1 : 0, x.given(40, 1));
        }
    }

    /** "5 BREATH more (60 at most)". */
    private static void givenBreath() {
        for (int breath = 3; breath <= 7; breath++) {
            LeapLane x = forced("lane 1;child 1 1 0;child 1 1 0", "leap 1 if breath = " + breath);
            T.due("given to one without breath, who leaps by " + breath, breath == 5 ? 1 : -1, x.given(1, 0));
            T.due("leapt then", breath == 5 ? 1 : 0, x.given(1, 1));
        }
        for (int had = 52; had <= 60; had++) {
            LeapLane x = Told.of("lane 1;child 1 1 0;child 1 1 0");
            for (int left = had; left > 0; left -= 9) {
                x.breath(1, Math.min(9, left));
            }
            T.due("breath", had, x.child(1, 2));
            int then = Math.min(60, had + 5);
            for (int i = 0; i < 3; i++) {
                Told.rule(x, "leap 1 if breath = " + (then - 1 + i));
                x.force(i);
                // at 60 nobody given leaps, too: of several nobody
                int who = i == 1 && had < 60 ? 1 : -1;
                if (had < 59 || i > 0) {
                    T.due("given at " + had + ", who leaps by " + (then - 1 + i), who, x.given(1, 0));
                }
            }
        }
    }

    /** "of several nobody, then the least". */
    private static void givenToTheLeast() {
        // each of four alike, but the first, could leap one back if they had breath
        LeapLane x = Told.of("lane 1" + ";child 5 5 0".repeat(4));
        T.due("the least of three", 1, x.given(1, 0));
        T.due("how many", 1, x.given(1, 1));
        x.front(1);
        T.due("the least of three others", 0, x.given(1, 0));
        x.front(0);
        x.stoop(0, 6);
        T.due("child 1 is behind a high back", 2, x.given(1, 0));
        x.breath(3, 1);
        T.due("one leaps anyway in this TURN: nobody", -1, x.given(1, 0));
        // 3 leaps 2; then 2 could leap 3, or 3 leap 1
        T.due("of two turns 2 and 3 are alike: the least", 2, x.given(2, 0));
        T.due("how many", 2, x.given(2, 1));
        // then 2 could leap 1, too, and nobody gets past child 0
        T.due("of six turns 2 is better", 2, x.given(6, 0));
        T.due("how many", 3, x.given(6, 1));
        // to leap more backs is better than to be the least
        LeapLane y = Told.of("lane 3" + ";child 5 5 0".repeat(4));
        T.due("the last leaps three", 3, y.given(1, 0));
        T.due("how many", 3, y.given(1, 1));
        LeapLane z = Edges.leapt996();
        T.due("all leapt, 999 at most of one", 999, z.given(1, 1));
        T.due("all leapt, 999 at most of one", 999 + 6, z.given(2, 1));
    }

    // ---- promise 28

    /** "RESTS of two CHILDREN for n TURNS (1 to 20)"; "(unlike)". */
    private static void restsAsked() {
        for (int w = 0; w < 3; w++) {
            int what = w;
            LIVED.outside("rests(0, 1, ., " + w + ")", 1, 20, -1, (x, v) -> x.rests(0, 1, v, what));
            LIVED.outside("rests(., 1, 1, " + w + ")", 0, 2, -1, (x, v) -> x.rests(v, 1, 1, what));
            LIVED.outside("rests(1, ., 1, " + w + ")", 0, 2, -1, (x, v) -> x.rests(1, v, 1, what));
            NO_CHILDREN.outside("rests(., 1, 1, " + w + ") without children", 0, -1, -1, (x, v) -> x.rests(v, 1, 1, what));
            ONE.outside("rests(0, ., 1, " + w + ") of one", 0, -1, -1, (x, v) -> x.rests(0, v, 1, what));
            for (int c = 0; c < 3; c++) {
                int child = c;
                LIVED.stays("rests of one and the same", -1, x -> x.rests(child, child, 1, what));
            }
            ONE.stays("rests(0, 0, 1, " + w + ") of one", -1, x -> x.rests(0, 0, 1, what));
        }
        LIVED.outside("rests(0, 1, 1, .)", 0, 2, -1, (x, v) -> x.rests(0, 1, 1, v));
    }

    /**
     * Of two alike with a LEAP of 10 child 0, the first, is leapt with a BACK of 5 or 10 and so loses a place: their
     * rests are 15 and 20, whatever the other one has; 16 are all, if nobody leaps.
     */
    private static void restsWithin(String when, int turns, boolean leapt) {
        Edges e = new Edges(T, () -> forced("lane 1;child 10 10 1;child 10 10 1", "leap 1 if " + when));
        String call = turns + ") leaping when " + when;
        e.stays("rests(0, 1, " + call, leapt ? 8 : 16, x -> x.rests(0, 1, turns, 0));
        e.stays("first of rests(0, 1, " + call, leapt ? 15 : 5, x -> x.rests(0, 1, turns, 1));
        e.stays("its other of rests(0, 1, " + call, 5, x -> x.rests(0, 1, turns, 2));
        e.stays("rests(1, 0, " + call, leapt ? 8 : 16, x -> x.rests(1, 0, turns, 0));
        e.stays("first of rests(1, 0, " + call, 5, x -> x.rests(1, 0, turns, 1));
        e.stays("its other of rests(1, 0, " + call, leapt ? 15 : 5, x -> x.rests(1, 0, turns, 2));
    }

    private static void rests() {
        restsWithin("turn = 0", 1, true);
        restsWithin("turn = 1", 1, false);
        restsWithin("turn = 1", 2, true);
        restsWithin("turn = 18", 19, true);
        restsWithin("turn = 19", 19, false);
        restsWithin("turn = 19", 20, true);
        restsWithin("turn = 20", 20, false);
        LIVED.stays("rests(0, 1, 20, 0) twice", Edges.lived().rests(0, 1, 20, 0), GoingOnEdgeTest::restsTwice);
    }

    private static int restsTwice(LeapLane x) {
        x.rests(0, 1, 20, 1);
        return x.rests(0, 1, 20, 0);
    }

    /** "each has BACK 5, 10, 15 or 20": one who leaps 5, 10, 15, 19 or 20 and no more parts these. */
    private static void restsOfFourBacks() {
        int[] leaps = {4, 5, 9, 10, 14, 15, 19, 20};
        // of child 0 the BACKS that are not leapt, or all four, if all are
        int[] rests = {16, 12, 12, 8, 8, 4, 4, 16};
        int[] firsts = {5, 10, 10, 15, 15, 20, 20, 5};
        for (int i = 0; i < leaps.length; i++) {
            LeapLane x = Told.of("lane 1;child 1 1 0;child 1 " + leaps[i] + " 1");
            T.due("rests by a leap of " + leaps[i], rests[i], x.rests(0, 1, 1, 0));
            T.due("the first by a leap of " + leaps[i], firsts[i], x.rests(0, 1, 1, 1));
            T.due("the other's of the first", 5, x.rests(0, 1, 1, 2));
            T.due("the other's of the first", 5, x.rests(1, 0, 1, 1));
            T.due("the first of the other way round", firsts[i], x.rests(1, 0, 1, 2));
        }
    }

    /** "how much LEAPT (999 at most, as else) is more then than now, twice": with a low BACK 1 leaps 0 in TURN 2 again. */
    private static void restsAtMost() {
        for (int leapt = 996; leapt <= 999; leapt++) {
            LeapLane x = Told.of("lane 1;child 1 10 5;child 1 10 5;child 1 1 0");
            for (int i = 0; i < leapt; i++) {
                x.breath(1, 1);
                x.leap(1, 1);
                x.front(0);
            }
            T.due("leapt", leapt, x.child(1, 5));
            T.due("rests of who LEAPT " + leapt, leapt < 998 ? 8 : 16, x.rests(1, 2, 3, 0));
            // with a high BACK child 1 is still first behind TURN 1, with a low one not
            T.due("rests for two turns of who LEAPT " + leapt, 8, x.rests(1, 2, 2, 0));
            T.due("the first for two turns", 15, x.rests(1, 2, 2, 1));
        }
    }

    // ---- promise 29

    private static void alikeAsked() {
        LIVED.outside("alike", 0, 1, -1, LeapLane::alike);
        NO_CHILDREN.outside("alike without children", 0, 1, -1, LeapLane::alike);
        LIVED.stays("alike(0)", 3, x -> x.alike(0));
        LIVED.stays("alike(1)", 1, x -> x.alike(1));
        NO_CHILDREN.stays("alike(0) without children", 0, x -> x.alike(0));
        NO_CHILDREN.stays("alike(1) without children", 1, x -> x.alike(1));
        ONE.stays("alike(0) of one", 0, x -> x.alike(0));
        ONE.stays("alike(1) of one", 1, x -> x.alike(1));
        BY_TURNS.stays("alike(0) of two", 1, x -> x.alike(0));
        BY_TURNS.stays("alike(1) of two", 2, x -> x.alike(1));
    }

    /** What ALIKE is to be, by TURNS that are played and looked at one by one. */
    private static void alikeByHand(String lane, String rule) {
        LeapLane x = Told.of(lane, rule);
        x.force(x.count(2) - 1);
        int many = x.count(1);
        int turn = x.count(4);
        int first = x.alike(0);
        int later = x.alike(1);
        List<String> begins = new ArrayList<>();
        for (int i = 0; i <= 60; i++) {
            StringBuilder begin = new StringBuilder().append(x.order());
            for (int child = 0; child < many; child++) {
                begin.append(' ').append(x.child(child, 2));
            }
            begins.add(begin.toString());
            x.turn();
        }
        int due = -2;
        int dueLater = -2;
        for (int i = 60; i >= 0; i--) {
            int next = begins.subList(i + 1, 61).indexOf(begins.get(i));
            due = next >= 0 ? turn + i : due;
            dueLater = next >= 0 ? next + 1 : dueLater;
        }
        T.due("alike(0) of '" + lane + "' by '" + rule + "'", due, first);
        T.due("alike(1) of '" + lane + "' by '" + rule + "'", dueLater, later);
    }

    private static void alikeOfSeven() {
        String[] numbers = {"1 1 1", "1 1 2", "1 1 3", "1 1 5", "1 1 9", "1 1 30", "5 9 4", "9 5 30"};
        String[] rules = {"leap", "leap 1", "leap place", "leap breath", "leap child+breath%3", "leap 1 if turn < 59",
            "leap 1 if turn < 60", "leap over*breath", "leap 9-leapt%8", "leap 1 if turn % 7 < 3;leap breath/2"};
        for (String each : numbers) {
            for (String rule : rules) {
                for (int spring = 1; spring <= 6; spring++) {
                    alikeByHand("lane " + spring + (";child " + each).repeat(7), rule);
                    alikeByHand("lane " + spring + (";child " + each).repeat(3) + ";child 4 20 2;child 20 7 3", rule);
                }
            }
        }
    }

    /** As high a BREATH as can be is not another CHILD's, and is no other one by 16 or 32. */
    private static void alikeOfHighBreath() {
        for (int more = 0; more <= 55; more++) {
            LeapLane x = forced(TWO, "leap 1 if turn = 0");
            for (int left = more; left > 0; left -= 9) {
                x.breath(0, Math.min(9, left));
            }
            // in TURN 0 child 1 leaps, in TURN 1 they get their BREATH back
            T.due("alike(0), child 0 has " + x.child(0, 2), 2, x.alike(0));
            T.due("alike(1)", 1, x.alike(1));
        }
        // so it is, if others have as high a BREATH as can be: ORDER 3412, where child 1 leaps 0
        LeapLane y = forced("lane 1" + ";child 1 1 5".repeat(4), "leap 1 if turn = 0 and child = 1");
        y.front(3);
        y.front(2);
        for (int i = 0; i < 7; i++) {
            y.breath(2, 9);
            y.breath(3, 9);
            T.due("alike(0), two have " + y.child(2, 2), 2, y.alike(0));
            T.due("alike(1)", 1, y.alike(1));
        }
        for (int children = 2; children <= 7; children++) {
            for (int child = 0; child < children; child++) {
                LeapLane x = Told.of("lane 6" + ";child 1 20 30".repeat(children), "leap 0");
                for (int i = 0; i < 30; i++) {
                    x.front((child + 1) % children);
                    x.leap(child, x.child(child, 3));
                }
                T.due("out of breath", 0, x.child(child, 2));
                x.force(0);
                T.due("alike(0), child " + child + " of " + children + " gets 30 back", 30, x.alike(0));
                T.due("alike(1)", 1, x.alike(1));
            }
        }
    }

    /** "of 60, at whose begin .. as at the begin of a later one, 60 TURNS from now at most". */
    private static void alikeWithin60() {
        for (int turns : new int[] {0, 1, 33}) {
            for (int last = 57; last <= 61; last++) {
                // each TURN takes 1 BREATH from the one who leaps, and nobody gets any: alike when nobody leaps
                LeapLane x = forced("lane 1;child 1 1 0;child 1 1 0", "leap 1 if turn < " + (turns + last));
                for (int i = 0; i < 7; i++) {
                    x.breath(0, 9);
                    x.breath(1, 9);
                }
                for (int i = 0; i < turns; i++) {
                    x.turn();
                }
                x.breath(0, 9);
                x.breath(1, 9);
                x.breath(0, 9);
                x.breath(1, 9);
                T.due("nobody leaps from TURN " + (turns + last) + " on", last < 60 ? turns + last : -2, x.alike(0));
                T.due("how much later", last < 60 ? 1 : -2, x.alike(1));
            }
        }
    }

    // ---- promise 30

    private static void penceAsked() {
        for (int c = 0; c < 3; c++) {
            int child = c;
            LIVED.outside("pence(., " + c + ")", 0, 9999, -1, (x, v) -> x.pence(v, child));
        }
        LIVED.outside("pence(5, .)", 0, 2, -1, (x, v) -> x.pence(5, v));
        LIVED.outside("pence(0, .)", 0, 2, -1, (x, v) -> x.pence(0, v));
        NO_CHILDREN.outside("pence(0, .) without children", 0, -1, -1, (x, v) -> x.pence(0, v));
        ONE.outside("pence(5, .) of one", 0, 0, -1, (x, v) -> x.pence(5, v));
        ONE.outside("pence(., 0) of one", 0, 9999, -1, (x, v) -> x.pence(v, 0));
        // LEAPT 2, 1 and 0
        int[][] due = {{0, 0, 0, 0}, {1, 1, 0, 0}, {2, 1, 1, 0}, {3, 2, 1, 0}, {4, 3, 1, 0}, {10, 7, 3, 0}, {11, 7, 4, 0},
            {9998, 6665, 3333, 0}, {9999, 6666, 3333, 0}};
        for (int[] row : due) {
            for (int c = 0; c < 3; c++) {
                int child = c;
                LIVED.stays("pence(" + row[0] + ", " + c + ")", row[c + 1], x -> x.pence(row[0], child));
            }
        }
        // "nothing, if nobody has"
        for (int much : new int[] {0, 1, 9999}) {
            ONE.stays("pence(" + much + ", 0) of one", 0, x -> x.pence(much, 0));
            BY_TURNS.stays("pence(" + much + ", 0), nobody LEAPT", 0, x -> x.pence(much, 0));
            BY_TURNS.stays("pence(" + much + ", 1), nobody LEAPT", 0, x -> x.pence(much, 1));
        }
    }

    /** A lane of seven who LEAPT so many backs each, by hand. */
    private static LeapLane leapt(int... backs) {
        LeapLane x = Told.of("lane 6" + ";child 1 1 30".repeat(7));
        for (int child = 0; child < 7; child++) {
            for (int left = backs[child]; left > 0; left -= 6) {
                for (int other = 0; other < 7; other++) {
                    if (other != child) {
                        x.front(other);
                    }
                }
                x.leap(child, Math.min(6, left));
            }
            T.due("child " + child + " LEAPT", backs[child], x.child(child, 5));
        }
        return x;
    }

    private static void pence(LeapLane x, int much, int... due) {
        int all = 0;
        for (int child = 0; child < 7; child++) {
            T.due("pence(" + much + ", " + child + ")", due[child], x.pence(much, child));
            all += x.pence(much, child);
        }
        T.due("all pence of " + much, much, all);
    }

    /** "what is left, one each, to those whose part lost most by that, of several the least first". */
    private static void penceLeft() {
        LeapLane alike = leapt(1, 1, 1, 1, 1, 1, 1);
        for (int left = 0; left < 7; left++) {
            int[] due = new int[7];
            for (int child = 0; child < 7; child++) {
                due[child] = 1427 + (child < left ? 1 : 0);
            }
            pence(alike, 7 * 1427 + left, due);
        }
        LeapLane three = leapt(0, 1, 0, 1, 0, 1, 0);
        pence(three, 1, 0, 1, 0, 0, 0, 0, 0);
        pence(three, 2, 0, 1, 0, 1, 0, 0, 0);
        pence(three, 3, 0, 1, 0, 1, 0, 1, 0);
        pence(three, 4, 0, 2, 0, 1, 0, 1, 0);
        // of 10 in 20: halves lost by 1, 3 and 5, nothing by others
        LeapLane halves = leapt(2, 1, 4, 3, 0, 5, 5);
        pence(halves, 10, 1, 1, 2, 2, 0, 2, 2);
        pence(halves, 20, 2, 1, 4, 3, 0, 5, 5);
        // of 19: 1.9, 0.95, 3.8, 2.85, 0, 4.75, 4.75: downwards these are 14, five are left
        pence(halves, 19, 2, 1, 4, 3, 0, 5, 4);
        // of 21: 2.1, 1.05, 4.2, 3.15, 0, 5.25, 5.25: one is left, to the first of the two that lost a quarter
        pence(halves, 21, 2, 1, 4, 3, 0, 6, 5);
        // of 9999: 999.9, 499.95, 1999.8, 1499.85, 0, 2499.75, 2499.75: five are left
        pence(halves, 9999, 1000, 500, 2000, 1500, 0, 2500, 2499);
    }

    public static void main(String[] args) {
        ahead();
        leads();
        stuck();
        givenTurns();
        givenBreath();
        givenToTheLeast();
        restsAsked();
        rests();
        restsOfFourBacks();
        restsAtMost();
        alikeAsked();
        alikeOfSeven();
        alikeOfHighBreath();
        alikeWithin60();
        penceAsked();
        penceLeft();
        T.close();
    }
}

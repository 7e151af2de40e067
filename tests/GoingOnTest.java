/** Promises 22 to 25 and 28 to 30: ahead, leads, stuck, given, rests, alike, pence. */
public final class GoingOnTest {
    private static final Told T = new Told("GoingOnTest");
    /** They leap one another by turns: child 1 in TURN 0, child 0 in TURN 1 .. */
    private static final String TWO = "lane 1;child 1 1 5;child 1 1 5";

    private static void ahead() {
        LeapLane x = Told.of(TWO);
        T.due("ahead(0, 0, 0)", 12, x.ahead(0, 0, 0));
        T.due("ahead(0, 1, 0)", 21, x.ahead(0, 1, 0));
        T.due("ahead(0, 100, 0)", 12, x.ahead(0, 100, 0));
        T.due("ahead(1, 1, 1)", 4, x.ahead(1, 1, 1));
        T.due("ahead(0, 1, 1)", 5, x.ahead(0, 1, 1));
        T.due("ahead(0, 2, 1)", 4, x.ahead(0, 2, 1));
        T.due("ahead(1, 2, 1)", 5, x.ahead(1, 2, 1));
        T.due("ahead(0, 100, 2)", 100, x.ahead(0, 100, 2));
        T.due("ahead(0, 101, 2)", -1, x.ahead(0, 101, 2));
        T.due("ahead(0, -1, 2)", -1, x.ahead(0, -1, 2));
        T.due("ahead(0, 1, 3)", -1, x.ahead(0, 1, 3));
        T.due("ahead(0, 1, -1)", -1, x.ahead(0, 1, -1));
        T.due("ahead(2, 1, 1)", -1, x.ahead(2, 1, 1));
        T.due("ahead(-1, 1, 1)", -1, x.ahead(-1, 1, 1));
        T.due("child not asked for", 21, x.ahead(2, 1, 0));
        T.due("child not asked for", 1, x.ahead(-1, 1, 2));
        x.turn();
        T.due("from now on", 12, x.ahead(0, 1, 0));
        T.due("all LEAPT, from the begin on", 3, x.ahead(0, 2, 2));
        T.due("nothing changed", 21, x.order());
        T.due("TURN", 1, x.count(4));
        T.due("no children", 0, Told.of("lane 1").ahead(0, 5, 0));
        T.due("no children", -1, Told.of("lane 1").ahead(0, 5, 1));
        LeapLane r = Told.of(TWO, "leap 1 if turn = 2");
        r.force(0);
        T.due("by the rule in force", 12, r.ahead(0, 2, 0));
        T.due("by the rule in force", 21, r.ahead(0, 3, 0));
    }

    private static void leads() {
        LeapLane x = Told.of(TWO);
        T.due("leads(1)", 0, x.leads(1));
        T.due("leads(0)", 1, x.leads(0));
        T.due("leads(2)", -1, x.leads(2));
        T.due("leads(-1)", -1, x.leads(-1));
        x.turn();
        T.due("leads(1) in TURN 1", 2, x.leads(1));
        T.due("leads(0) in TURN 1", 1, x.leads(0));
        LeapLane r = Told.of(TWO, "leap 1 if turn = 199", "leap 1 if turn = 200", "leap 0");
        r.force(0);
        T.due("leads in the 200th", 199, r.leads(1));
        r.force(1);
        T.due("leads in the 201st", -2, r.leads(1));
        r.turn();
        T.due("leads in the 200th from TURN 1", 200, r.leads(1));
        r.force(2);
        T.due("leads never", -2, r.leads(1));
        T.due("leads already", 1, r.leads(0));
    }

    private static void stuck() {
        T.due("never", -2, Told.of(TWO).stuck());
        T.due("at once", 0, Told.of("lane 1;child 1 1 1;child 1 1 0").stuck());
        T.due("no children", 0, Told.of("lane 1").stuck());
        LeapLane x = Told.of("lane 1;child 5 1 0;child 1 5 1");
        T.due("in TURN 1", 1, x.stuck());
        x.turn();
        T.due("in TURN 1, now", 1, x.stuck());
        x.turn();
        T.due("in TURN 2, now", 2, x.stuck());
        LeapLane r = Told.of(TWO, "leap 1 if turn < 199", "leap 1 if turn < 200");
        r.force(0);
        T.due("in the 200th", 199, r.stuck());
        r.force(1);
        T.due("in the 201st", -2, r.stuck());
        r.turn();
        T.due("in the 200th from TURN 1", 200, r.stuck());
    }

    private static void given() {
        LeapLane x = Told.of("lane 1;child 1 1 0;child 1 1 1");
        T.due("given(1, 0): nobody", -1, x.given(1, 0));
        T.due("given(1, 1)", 1, x.given(1, 1));
        T.due("given(3, 0)", 0, x.given(3, 0));
        T.due("given(3, 1)", 3, x.given(3, 1));
        // child 0 leaps five times, child 1 ahead of each and once behind
        T.due("given(40, 1)", 11, x.given(40, 1));
        T.due("given(0, 0)", -2, x.given(0, 0));
        T.due("given(41, 0)", -2, x.given(41, 0));
        T.due("given(1, 2)", -2, x.given(1, 2));
        T.due("given(1, -1)", -2, x.given(1, -1));
        T.due("nothing changed", 0, x.child(0, 2));
        x.turn();
        T.due("LEAPT from the begin on", 3, x.given(2, 1));
        T.due("no children", -1, Told.of("lane 1").given(3, 0));
        T.due("no children", 0, Told.of("lane 1").given(3, 1));
        // either of the two in the middle could leap: of several the least
        LeapLane s = Told.of("lane 1;child 1 1 0;child 1 1 0;child 1 1 0");
        T.due("of several the least", 1, s.given(1, 0));
        T.due("how many", 1, s.given(1, 1));
    }

    private static void givenAtMost() {
        LeapLane x = Told.of("lane 1;child 1 1 0;child 1 1 0", "leap 1 if breath > 60", "leap 1 if breath = 60");
        for (int i = 0; i < 6; i++) {
            x.breath(1, 9);
        }
        x.breath(1, 4);
        x.force(0);
        T.due("58 and 5 are no more than 60", -1, x.given(1, 0));
        x.force(1);
        T.due("58 and 5 are 60", 1, x.given(1, 0));
    }

    private static void rests() {
        LeapLane x = Told.of("lane 1;child 10 10 1;child 10 10 1");
        // child 0 is not leapt with a back of 15 or 20, whatever child 1 has
        T.due("rests(0, 1, 1, 0)", 8, x.rests(0, 1, 1, 0));
        T.due("rests(0, 1, 1, 1)", 15, x.rests(0, 1, 1, 1));
        T.due("rests(0, 1, 1, 2)", 5, x.rests(0, 1, 1, 2));
        T.due("rests(1, 0, 1, 0)", 8, x.rests(1, 0, 1, 0));
        T.due("rests(1, 0, 1, 1)", 5, x.rests(1, 0, 1, 1));
        T.due("rests(1, 0, 1, 2)", 15, x.rests(1, 0, 1, 2));
        T.due("rests(0, 0, 1, 0)", -1, x.rests(0, 0, 1, 0));
        T.due("rests(0, 2, 1, 0)", -1, x.rests(0, 2, 1, 0));
        T.due("rests(-1, 1, 1, 0)", -1, x.rests(-1, 1, 1, 0));
        T.due("rests(0, 1, 0, 0)", -1, x.rests(0, 1, 0, 0));
        T.due("rests(0, 1, 21, 0)", -1, x.rests(0, 1, 21, 0));
        T.due("rests(0, 1, 1, 3)", -1, x.rests(0, 1, 1, 3));
        T.due("rests(0, 1, 1, -1)", -1, x.rests(0, 1, 1, -1));
        T.due("nothing changed", 10, x.child(0, 0));
        // what was LEAPT ahead of now does not count
        x.turn();
        T.due("they changed places", 8, x.rests(1, 0, 1, 0));
        T.due("they changed places", 15, x.rests(1, 0, 1, 1));
        LeapLane y = Told.of("lane 1;child 1 4 9;child 1 4 9");
        T.due("nobody can leap any of these backs", 16, y.rests(0, 1, 20, 0));
        T.due("the first", 5, y.rests(0, 1, 20, 1));
        T.due("the first", 5, y.rests(0, 1, 20, 2));
    }

    /** Found by a program that played each of the sixteen twos with stoop and turn of LeapLane, not with rests. */
    private static void restsOfFour() {
        LeapLane x = Told.of("lane 2;child 15 5 1;child 6 15 3;child 3 2 3;child 4 8 1");
        T.due("how many", 4, x.rests(0, 1, 4, 0));
        T.due("the first", 5, x.rests(0, 1, 4, 1));
        T.due("the first", 5, x.rests(0, 1, 4, 2));
        LeapLane y = Told.of("lane 2;child 17 12 1;child 17 6 3;child 6 11 1;child 17 18 1");
        T.due("how many", 9, y.rests(0, 1, 4, 0));
        T.due("the first", 10, y.rests(0, 1, 4, 1));
        T.due("the first", 5, y.rests(0, 1, 4, 2));
        LeapLane z = Told.of("lane 2;child 14 9 3;child 9 12 3;child 11 5 3;child 6 15 2");
        T.due("none", 0, z.rests(0, 1, 4, 0));
        T.due("none", -2, z.rests(0, 1, 4, 1));
        T.due("none", -2, z.rests(0, 1, 4, 2));
    }

    private static void alike() {
        LeapLane x = Told.of(TWO);
        // breath 5 5, then 5 4, 4 5, 5 4 ..
        T.due("alike(0)", 1, x.alike(0));
        T.due("alike(1)", 2, x.alike(1));
        T.due("alike(2)", -1, x.alike(2));
        T.due("alike(-1)", -1, x.alike(-1));
        x.turn();
        T.due("alike(0) in TURN 1", 1, x.alike(0));
        x.turn();
        T.due("alike(0) in TURN 2", 2, x.alike(0));
        T.due("alike(1) in TURN 2", 2, x.alike(1));
        T.due("no children", 0, Told.of("lane 1").alike(0));
        T.due("no children", 1, Told.of("lane 1").alike(1));
        LeapLane one = Told.of("lane 1;child 1 1 0", "leap 1");
        for (int i = 0; i < 5; i++) {
            one.turn();
        }
        T.due("one who stays, in TURN 5", 5, one.alike(0));
        T.due("at once", 1, one.alike(1));
    }

    /** Breath grows from 0 to 30 while nobody leaps: the first alike are behind that. */
    private static void alikeLate() {
        LeapLane x = Told.of("lane 1;child 1 1 30;child 1 1 0", "leap 0");
        for (int i = 0; i < 30; i++) {
            x.front(1);
            x.leap(0, 1);
        }
        T.due("out of breath", 0, x.child(0, 2));
        x.force(0);
        T.due("alike(0)", 30, x.alike(0));
        T.due("alike(1)", 1, x.alike(1));
    }

    /** Two who only lose breath: given 60 each, they leap by turns and are never as they were. */
    private static void alikeNever() {
        LeapLane x = Told.of("lane 1;child 1 1 0;child 1 1 0");
        for (int i = 0; i < 7; i++) {
            x.breath(0, 9);
            x.breath(1, 9);
        }
        T.due("60 breath", 60, x.child(1, 2));
        T.due("never within 60 turns", -2, x.alike(0));
        T.due("never within 60 turns", -2, x.alike(1));
        LeapLane y = Told.of("lane 1;child 1 1 0;child 1 1 0", "leap 1 if turn < 59");
        y.force(0);
        for (int i = 0; i < 7; i++) {
            y.breath(0, 9);
            y.breath(1, 9);
        }
        T.due("the last two that are looked at", 59, y.alike(0));
        T.due("the last two that are looked at", 1, y.alike(1));
        LeapLane z = Told.of("lane 1;child 1 1 0;child 1 1 0", "leap 1 if turn < 60");
        z.force(0);
        for (int i = 0; i < 7; i++) {
            z.breath(0, 9);
            z.breath(1, 9);
        }
        T.due("the first two beyond", -2, z.alike(0));
    }

    private static void pence() {
        LeapLane x = Told.of("lane 1;child 1 20 9;child 1 20 9;child 1 20 9");
        T.due("nobody LEAPT", 0, x.pence(100, 0));
        x.leap(1, 1);
        T.due("all to one", 100, x.pence(100, 1));
        T.due("nothing to others", 0, x.pence(100, 0));
        x.leap(0, 1);
        x.leap(2, 1);
        int[][] due = {{100, 34, 33, 33}, {2, 1, 1, 0}, {1, 1, 0, 0}, {0, 0, 0, 0}, {9999, 3333, 3333, 3333}};
        for (int[] row : due) {
            for (int child = 0; child < 3; child++) {
                T.due("pence(" + row[0] + ", " + child + ")", row[child + 1], x.pence(row[0], child));
            }
        }
        T.due("pence(-1, 0)", -1, x.pence(-1, 0));
        T.due("pence(10000, 0)", -1, x.pence(10000, 0));
        T.due("pence(1, 3)", -1, x.pence(1, 3));
        T.due("pence(1, -1)", -1, x.pence(1, -1));
        // 1 : 2 : 1 of 10 are 2.5, 5 and 2.5; of 11 are 2.75, 5.5 and 2.75
        x.front(0);
        x.leap(1, 1);
        int[][] more = {{10, 3, 5, 2}, {11, 3, 5, 3}, {9, 2, 5, 2}};
        for (int[] row : more) {
            for (int child = 0; child < 3; child++) {
                T.due("pence(" + row[0] + ", " + child + ") by 1 2 1", row[child + 1], x.pence(row[0], child));
            }
        }
    }

    public static void main(String[] args) {
        ahead();
        leads();
        stuck();
        given();
        givenAtMost();
        rests();
        restsOfFour();
        alike();
        alikeLate();
        alikeNever();
        pence();
        T.close();
    }
}

/** Promises 7 to 14 and 36: child, order, turn, leap, stoop, breath, front, undo, count. */
public final class ActTest {
    private static final Told T = new Told("ActTest");
    private static final String FOUR = "lane 2;child 5 9 3;child 8 6 2;child 4 7 1;child 9 5 5";
    /** All can leap all. */
    private static final String FREE = "lane 2;child 1 20 9;child 1 20 9;child 1 20 9;child 1 20 9";

    private static void children() {
        LeapLane x = Told.of(FOUR);
        int[][] due = {{5, 9, 3, 0, 0, 0}, {8, 6, 2, 1, 1, 0}, {4, 7, 1, 2, 0, 0}, {9, 5, 5, 3, 1, 0}};
        for (int child = 0; child < 4; child++) {
            for (int what = 0; what < 6; what++) {
                T.due("child(" + child + ", " + what + ")", due[child][what], x.child(child, what));
            }
        }
        T.due("child(4, 0)", -1, x.child(4, 0));
        T.due("child(-1, 0)", -1, x.child(-1, 0));
        T.due("child(0, -1)", -1, x.child(0, -1));
        T.due("child(0, 6)", -1, x.child(0, 6));
        T.due("order", 1234, x.order());
        int[] counts = {2, 4, 0, -1, 0, 10, 0, 0, 0, 0, 0, 0};
        for (int what = 0; what < 12; what++) {
            T.due("count(" + what + ")", counts[what], x.count(what));
        }
        T.due("count(12)", -1, x.count(12));
        T.due("count(-1)", -1, x.count(-1));
        T.due("order without children", 0, Told.of("lane 1").order());
        T.due("first without children", -1, Told.of("lane 1").count(6));
        T.due("order of seven", 1234567, Told.of("lane 1" + ";child 1 1 0".repeat(7)).order());
    }

    private static void overs() {
        LeapLane x = Told.of("lane 6" + ";child 1 1 0".repeat(7));
        for (int child = 0; child < 7; child++) {
            T.due("over, spring 6, whatever the breath", child, x.child(child, 4));
        }
        T.due("nobody CAN without breath", 0, x.count(5));
        LeapLane y = Told.of("lane 3" + ";child 1 1 1".repeat(7));
        T.due("over, spring 3", 3, y.child(6, 4));
        T.due("over, two ahead", 2, y.child(2, 4));
        y.stoop(4, 2);
        T.due("one of the row is too high", 1, y.child(6, 4));
        T.due("that one is", 0, y.child(5, 4));
        T.due("who CAN", 0b1011110, y.count(5));
    }

    /** By hand, without a RULE: of FOUR the one farthest back who CAN. */
    private static void turns() {
        LeapLane x = Told.of(FOUR);
        T.due("TURN 0", 3, x.turn());
        T.due("order", 1243, x.order());
        T.due("breath of who leapt", 4, x.child(3, 2));
        T.due("breath as told", 3, x.child(0, 2));
        T.due("leapt", 1, x.child(3, 5));
        T.due("who CAN", 2, x.count(5));
        T.due("TURN 1", 1, x.turn());
        T.due("order", 2143, x.order());
        T.due("breath got back", 5, x.child(3, 2));
        T.due("first", 1, x.count(6));
        T.due("TURN 2", 3, x.turn());
        T.due("order", 2413, x.order());
        T.due("who CAN", 5, x.count(5));
        T.due("over", 2, x.child(0, 4));
        T.due("TURN 3", 2, x.turn());
        T.due("order", 2431, x.order());
        T.due("out of breath", 0, x.child(2, 2));
        T.due("TURN", 4, x.count(4));
        T.due("all leapt", 4, x.count(7));
        T.due("acts", 4, x.count(9));
        T.due("leapt twice", 2, x.child(3, 5));
        // 2431: child 0 is last and leaps 2 and 3 (backs 4 and 9): as many as they can
        T.due("TURN 4", 0, x.turn());
        T.due("order", 2143, x.order());
        T.due("leapt two backs", 2, x.child(0, 5));
        T.due("1 breath less", 2, x.child(0, 2));
        T.due("it got breath back", 1, x.child(2, 2));
        T.due("nobody leaps", -2, Told.of("lane 1").turn());
    }

    private static void nobodyLeaps() {
        LeapLane x = Told.of("lane 1;child 1 1 2;child 1 1 2", "leap 0");
        x.leap(1, 1);
        x.leap(0, 1);
        x.force(0);
        T.due("breath spent", 1, x.child(0, 2));
        T.due("nobody leaps", -2, x.turn());
        T.due("TURN", 1, x.count(4));
        T.due("all get breath", 2, x.child(0, 2));
        T.due("all get breath", 2, x.child(1, 2));
        T.due("acts", 3, x.count(9));
        x.turn();
        T.due("no more than told", 2, x.child(1, 2));
        x.breath(1, 9);
        x.turn();
        T.due("as it is, if it is more", 11, x.child(1, 2));
    }

    private static void wordsGoOn() {
        LeapLane x = Told.of("lane 1;child 1 1 2;child 1 1 2", "leap leapt", "leap turn", "leap 1 if breath < 2");
        x.force(0);
        T.due("nobody LEAPT so far", -2, x.turn());
        x.leap(1, 1);
        T.due("the one ahead LEAPT", -2, x.turn());
        x.front(0);
        T.due("who LEAPT", 1, x.turn());
        x.force(1);
        T.due("TURN 3", 0, x.turn());
        x.force(2);
        T.due("breath 2", -2, x.turn());
        x.leap(1, 1);
        x.front(0);
        T.due("breath 1", 1, x.turn());
    }

    private static void last() {
        LeapLane x = Told.of("lane 1;child 1 1 2;child 1 1 2");
        for (int i = 0; i < 999; i++) {
            T.due("TURN " + i, i % 2 == 0 ? 1 : 0, x.turn());
        }
        T.due("TURN 999", -1, x.turn());
        T.due("TURN stays", 999, x.count(4));
        T.due("asked it goes on", 1008, x.ahead(0, 9, 2));
        T.due("leads in TURN 999", 999, x.leads(0));
        T.due("leads in TURN 1000", 1000, x.leads(1));
        T.due("alike in TURN 999", 999, x.alike(0));
        T.due("leap by hand", 0, x.leap(0, 1));
        T.due("leapt", 500, x.child(0, 5));
    }

    private static void leaptAtMost() {
        LeapLane x = Told.of("lane 6" + ";child 1 1 30".repeat(7));
        for (int i = 0; i < 180; i++) {
            x.front(0);
            for (int child = 1; child < 6; child++) {
                x.front(child);
            }
            x.breath(6, 9);
            x.leap(6, 6);
        }
        T.due("leapt 999 at most", 999, x.child(6, 5));
        T.due("all leapt", 999, x.count(7));
        for (int child = 0; child < 6; child++) {
            x.front(child);
        }
        T.due("a turn", 6, x.turn());
        T.due("leapt 999 at most in turns", 999, x.child(6, 5));
    }

    private static void leapsByHand() {
        LeapLane x = Told.of(FREE);
        T.due("leap(3, 3): spring 2", -1, x.leap(3, 3));
        T.due("leap(3, 0)", -1, x.leap(3, 0));
        T.due("leap(3, -1)", -1, x.leap(3, -1));
        T.due("leap(4, 1)", -1, x.leap(4, 1));
        T.due("leap(-1, 1)", -1, x.leap(-1, 1));
        T.due("leap(0, 1): first", -1, x.leap(0, 1));
        T.due("leap(1, 2): one is ahead", -1, x.leap(1, 2));
        T.due("nothing happened", 0, x.count(9));
        T.due("leap(3, 2)", 1, x.leap(3, 2));
        T.due("order", 1423, x.order());
        T.due("leapt", 2, x.child(3, 5));
        T.due("breath", 8, x.child(3, 2));
        T.due("TURN stays", 0, x.count(4));
        T.due("leap(2, 1)", 2, x.leap(2, 1));
        T.due("order", 1432, x.order());
        T.due("nobody gets breath", 8, x.child(3, 2));
        LeapLane y = Told.of("lane 2;child 5 9 1;child 5 5 0;child 6 4 3");
        T.due("no breath", -1, y.leap(1, 1));
        T.due("a back too high", -1, y.leap(2, 1));
        y.breath(1, 1);
        T.due("with breath", 0, y.leap(1, 1));
        T.due("order", 213, y.order());
        T.due("out of breath", 0, y.child(1, 2));
    }

    private static void stoops() {
        LeapLane x = Told.of(FOUR);
        T.due("stoop(0, 5): it is that", -1, x.stoop(0, 5));
        T.due("stoop(0, 0)", -1, x.stoop(0, 0));
        T.due("stoop(0, 21)", -1, x.stoop(0, 21));
        T.due("stoop(4, 7)", -1, x.stoop(4, 7));
        T.due("stoop(-1, 7)", -1, x.stoop(-1, 7));
        T.due("nothing happened", 0, x.count(9));
        T.due("stoop(1, 7)", 8, x.stoop(1, 7));
        T.due("child 2 can leap now", 2, x.child(2, 4));
        T.due("stoop(1, 20)", 7, x.stoop(1, 20));
        T.due("stoop(1, 1)", 20, x.stoop(1, 1));
        T.due("back", 1, x.child(1, 0));
        T.due("acts", 3, x.count(9));
    }

    private static void breaths() {
        LeapLane x = Told.of(FOUR);
        T.due("breath(0, 0)", -1, x.breath(0, 0));
        T.due("breath(0, 10)", -1, x.breath(0, 10));
        T.due("breath(4, 1)", -1, x.breath(4, 1));
        T.due("breath(-1, 1)", -1, x.breath(-1, 1));
        T.due("nothing happened", 0, x.count(9));
        T.due("breath(0, 1)", 4, x.breath(0, 1));
        T.due("breath(0, 9)", 13, x.breath(0, 9));
        for (int much = 22; much <= 58; much += 9) {
            T.due("breath(0, 9)", much, x.breath(0, 9));
        }
        T.due("60 at most", 60, x.breath(0, 9));
        T.due("60 at most", 60, x.breath(0, 1));
        T.due("acts", 9, x.count(9));
    }

    private static void fronts() {
        LeapLane x = Told.of(FOUR);
        T.due("front(0): is first", -1, x.front(0));
        T.due("front(4)", -1, x.front(4));
        T.due("front(-1)", -1, x.front(-1));
        T.due("nothing happened", 0, x.count(9));
        T.due("front(2)", 2, x.front(2));
        T.due("order", 3124, x.order());
        T.due("front(3)", 3, x.front(3));
        T.due("order", 4312, x.order());
        T.due("nobody LEAPT", 0, x.count(7));
        T.due("place", 2, x.child(0, 3));
        T.due("acts", 2, x.count(9));
    }

    private static void undone() {
        LeapLane x = Told.of(FOUR, "leap 1");
        x.turn();
        x.leap(1, 1);
        x.stoop(1, 3);
        x.breath(2, 4);
        x.front(3);
        x.note(0, 1);
        x.seed(5);
        x.force(0);
        T.due("acts", 5, x.count(9));
        T.due("order", 4213, x.order());
        T.due("undo front", 4, x.undo());
        T.due("order", 2143, x.order());
        T.due("undo breath", 3, x.undo());
        T.due("breath", 1, x.child(2, 2));
        T.due("undo stoop", 2, x.undo());
        T.due("back", 8, x.child(1, 0));
        T.due("undo leap", 1, x.undo());
        T.due("order", 1243, x.order());
        T.due("breath", 2, x.child(1, 2));
        T.due("leapt", 0, x.child(1, 5));
        T.due("undo turn", 0, x.undo());
        T.due("order", 1234, x.order());
        T.due("TURN", 0, x.count(4));
        T.due("breath", 5, x.child(3, 2));
        T.due("leapt", 0, x.count(7));
        T.due("undo nothing", -1, x.undo());
        T.due("notes stay", 1, x.count(8));
        T.due("x stays", 5, x.count(10));
        T.due("the rule in force stays", 0, x.count(3));
    }

    private static void twentyUndone() {
        LeapLane x = Told.of(FOUR);
        for (int back = 1; back <= 19; back++) {
            x.stoop(0, back == 5 ? 20 : back);
        }
        T.due("acts", 19, x.count(9));
        x.stoop(1, 1);
        T.due("acts", 20, x.count(9));
        x.stoop(1, 2);
        x.stoop(1, 3);
        T.due("acts, 20 at most", 20, x.count(9));
        for (int left = 19; left >= 0; left--) {
            T.due("undo", left, x.undo());
        }
        T.due("undo", -1, x.undo());
        T.due("the first two acts stay", 2, x.child(0, 0));
        T.due("all others are undone", 8, x.child(1, 0));
        x.stoop(0, 9);
        T.due("acts again", 1, x.count(9));
        T.due("undo", 0, x.undo());
        T.due("back", 2, x.child(0, 0));
    }

    public static void main(String[] args) {
        children();
        overs();
        turns();
        nobodyLeaps();
        wordsGoOn();
        last();
        leaptAtMost();
        leapsByHand();
        stoops();
        breaths();
        fronts();
        undone();
        twentyUndone();
        T.close();
    }
}

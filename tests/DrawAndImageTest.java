/** Promises 34, 35, 37 and 38: seed, stumbles, image, back. */
public final class DrawAndImageTest {
    private static final Told T = new Told("DrawAndImageTest");
    private static final String TWO = "lane 1;child 1 1 5;child 1 1 5";

    private static void seeds() {
        LeapLane x = new LeapLane();
        T.due("seed(7)", 0, x.seed(7));
        T.due("seed(-1)", -1, x.seed(-1));
        T.due("seed(MIN)", -1, x.seed(Integer.MIN_VALUE));
        T.due("x stays", 7, x.count(10));
        T.due("seed(MAX)", 7, x.seed(Integer.MAX_VALUE));
        T.due("seed(0)", Integer.MAX_VALUE, x.seed(0));
    }

    private static void wrongStumbles() {
        LeapLane x = Told.of(TWO);
        int[][] wrong = {{0, 1, 0, 0}, {11, 1, 0, 0}, {1, 0, 0, 0}, {1, 61, 0, 0}, {1, 1, -1, 0}, {1, 1, 101, 0},
            {1, 1, 0, -1}, {1, 1, 0, 2}};
        for (int[] a : wrong) {
            T.due("stumbles wrongly asked", -1, x.stumbles(a[0], a[1], a[2], a[3]));
        }
        T.due("no children", 0, Told.of("lane 1").stumbles(3, 3, 100, 0));
        T.due("no children", 0, Told.of("lane 1").stumbles(3, 3, 100, 1));
    }

    /**
     * From x = 0 the DRAWS are 0, 21468, 9988, 22117, 3498, 16927, 16045, 19741, 12122 ..:
     * mod 100 they are 0, 68, 88, 17, 98, 27, 45, 41, 22 ..; mod 2 they are 0, 0, 0, 1, 0, 1, 1, 1, 0 ..
     */
    private static void stumbles() {
        LeapLane x = Told.of(TWO);
        T.due("nobody stumbles: each turn one back", 10 * 60, x.stumbles(10, 60, 0, 0));
        T.due("nobody stumbles: 0 is first behind even turns", 10, x.stumbles(10, 60, 0, 1));
        T.due("nobody stumbles, odd turns", 0, x.stumbles(10, 59, 0, 1));
        // 0 is below 1: of two 21468 is child 0, who has no breath; 1 leaps
        T.due("m 1, n 1, p 1", 1, x.stumbles(1, 1, 1, 0));
        // then 88: nobody stumbles; child 0 got 1 breath back behind TURN 0 and leaps
        T.due("m 1, n 2, p 1", 2, x.stumbles(1, 2, 1, 0));
        T.due("0 is first", 1, x.stumbles(1, 2, 1, 1));
        // all stumble. TURN 0: 0, child 0; 1 leaps. TURN 1: 9988, 22117: child 1; 0 leaps (1 breath)
        // TURN 2: 3498, 16927: child 1, who has none; nobody leaps, 1 gets 1. TURN 3: 16045, 19741: child 1; nobody
        T.due("all stumble, 2 turns", 2, x.stumbles(1, 2, 100, 0));
        T.due("all stumble, 3 turns", 2, x.stumbles(1, 3, 100, 0));
        T.due("all stumble, 4 turns", 2, x.stumbles(1, 4, 100, 0));
        // two games of two turns: the second goes on with the draws: child 1 can't leap, twice
        T.due("two games", 2, x.stumbles(2, 2, 100, 0));
        T.due("two games, 0 first in both", 2, x.stumbles(2, 2, 100, 1));
        // below 89, not 88: in TURN 1 nobody stumbles by 88
        T.due("x as it was", 0, x.count(10));
        T.due("nothing stays", 12, x.order());
        T.due("nothing stays", 5, x.child(0, 2));
        T.due("nothing stays", 0, x.count(4));
        x.leap(1, 1);
        T.due("all LEAPT, from the begin on", 2 * 2, x.stumbles(2, 1, 0, 0));
        // from x = 42 the DRAWS mod 100 are 81, 33, 69, 61
        x.seed(42);
        T.due("81 is not below 81", 2, x.stumbles(1, 1, 81, 0));
        T.due("81 is below 82: child 1 stumbles, 0 leaps", 2, x.stumbles(1, 1, 82, 0));
        LeapLane r = Told.of(TWO, "leap 1 if breath = 5");
        r.force(0);
        r.seed(42);
        T.due("by the rule: 1 leaps", 1, r.stumbles(1, 1, 81, 0));
        T.due("by the rule: 1 stumbled", 0, r.stumbles(1, 1, 82, 0));
        T.due("0 is first then", 1, r.stumbles(1, 1, 82, 1));
    }

    private static void images() {
        LeapLane x = Told.of(TWO, "leap 1");
        T.due("back(0) never made", -1, x.back(0));
        T.due("image(-1)", -1, x.image(-1));
        T.due("image(4)", -1, x.image(4));
        T.due("back(-1)", -1, x.back(-1));
        T.due("back(4)", -1, x.back(4));
        x.turn();
        x.note(3, 1);
        x.seed(9);
        x.stoop(0, 7);
        T.due("image(3)", 1, x.image(3));
        T.due("acts stay", 2, x.count(9));
        x.force(0);
        x.note(4, 1);
        x.seed(10);
        x.stoop(0, 1);
        x.turn();
        x.breath(0, 9);
        Told.rule(x, "leap 2");
        Told.put(x, "lane");
        T.due("image(0)", 2, x.image(0));
        T.due("back(3)", 1, x.back(3));
        T.due("order", 21, x.order());
        T.due("back", 7, x.child(0, 0));
        T.due("breath", 5, x.child(0, 2));
        T.due("leapt", 1, x.count(7));
        T.due("rules stay", 2, x.count(2));
        T.due("the rule in force", -1, x.count(3));
        T.due("TURN", 1, x.count(4));
        T.due("notes", 1, x.count(8));
        T.due("nothing to be undone", 0, x.count(9));
        T.due("undo", -1, x.undo());
        T.due("x", 9, x.count(10));
        T.due("the tape stays", 4, x.count(11));
        T.due("back(1) never made", -1, x.back(1));
        x.turn();
        T.due("back(1) again: nothing happens", -1, x.back(1));
        T.due("acts stay", 1, x.count(9));
        T.due("back(0)", 2, x.back(0));
        T.due("the rule in force", 0, x.count(3));
        T.due("notes", 2, x.count(8));
        T.due("breath", 13, x.child(0, 2));
        T.due("back(3) again", 1, x.back(3));
        T.due("it is as it was", 7, x.child(0, 0));
        T.due("image(3) anew", 1, x.image(3));
    }

    private static void imagesOfLanes() {
        LeapLane x = new LeapLane();
        T.due("image without a lane", 0, x.image(2));
        Told.lane(x, "lane 3;child 4 5 6;child 7 8 9");
        x.turn();
        x.image(1);
        Told.lane(x, TWO);
        T.due("back to another lane", 1, x.back(1));
        T.due("spring", 3, x.count(0));
        T.due("leap", 8, x.child(1, 1));
        T.due("order", 21, x.order());
        x.note(0, 1);
        T.due("as that text told it", 0x1fffff - 0xf, x.leapsOf(1));
        T.due("back to no lane", 0, x.back(2));
        T.due("no lane", -1, x.order());
        T.due("no children", 0, x.count(1));
        T.due("no turn", -1, x.turn());
        T.due("no notes", 0, x.count(8));
    }

    public static void main(String[] args) {
        seeds();
        wrongStumbles();
        stumbles();
        images();
        imagesOfLanes();
        T.close();
    }
}

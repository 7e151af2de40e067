import java.math.BigInteger;
import java.util.ArrayList;
import java.util.List;

/** The boundaries of promises 34, 35, 37 and 38, of draws and images, each on both of its sides. */
public final class DrawAndImageEdgeTest {
    private static final Told T = new Told("DrawAndImageEdgeTest");
    private static final Edges LIVED = new Edges(T, Edges::lived);
    private static final Edges NO_CHILDREN = new Edges(T, () -> Told.of("lane 2", "leap 1"));
    private static final Edges ONE = new Edges(T, () -> Told.of("lane 2;child 5 6 7"));
    private static final int MAX = Integer.MAX_VALUE;
    private static final String TWO = "lane 1;child 1 1 5;child 1 1 5";
    private static final int[] SEEDS = {0, 1, 2, 76, 77, 65535, 65536, 12345, 1103515245, 1073741824, MAX - 1, MAX};

    /** The DRAWS from an x on, by numbers of any length. */
    private static int[] draws(int x, int many) {
        int[] draws = new int[many];
        BigInteger now = BigInteger.valueOf(x);
        for (int i = 0; i < many; i++) {
            now = now.multiply(BigInteger.valueOf(1103515245)).add(BigInteger.valueOf(12345)).mod(BigInteger.ONE.shiftLeft(31));
            draws[i] = now.divide(BigInteger.valueOf(65536)).intValueExact();
        }
        return draws;
    }

    // ---- promise 34: "x (0 to 2147483647; 0 at first)"; "NONE, and nothing happens, below 0."

    private static void seeds() {
        LIVED.outside("seed", 0, MAX - 1, -1, DrawAndImageEdgeTest::seedBelow);
        new Edges(T, LeapLane::new).stays("seed(-1) without a lane", -1, x -> x.seed(-1));
        LeapLane x = new LeapLane();
        T.due("x at first", 0, x.count(10));
        int was = 0;
        for (int seed : SEEDS) {
            T.due("seed(" + seed + ")", was, x.seed(seed));
            T.due("x then", seed, x.count(10));
            was = seed;
        }
        T.due("seed is no act", 0, x.count(9));
    }

    /** What is greatest of all is no number outside. */
    private static int seedBelow(LeapLane x, int seed) {
        return seed == MAX ? x.seed(-1) : x.seed(seed);
    }

    // ---- promise 35

    /** "STUMBLES m times (1 to 10) n TURNS (1 to 60) .. p (0 to 100)"; "NONE without these, or a LANE". */
    private static void stumblesAsked() {
        for (int w = 0; w < 2; w++) {
            int what = w;
            for (Edges e : new Edges[] {LIVED, NO_CHILDREN, ONE}) {
                e.outside("stumbles(., 1, 50, " + w + ")", 1, 10, -1, (x, v) -> x.stumbles(v, 1, 50, what));
                e.outside("stumbles(1, ., 50, " + w + ")", 1, 60, -1, (x, v) -> x.stumbles(1, v, 50, what));
                e.outside("stumbles(1, 1, ., " + w + ")", 0, 100, -1, (x, v) -> x.stumbles(1, 1, v, what));
            }
            for (int m : new int[] {1, 10}) {
                for (int n : new int[] {1, 60}) {
                    for (int p : new int[] {0, 100}) {
                        NO_CHILDREN.stays("stumbles without children", 0, x -> x.stumbles(m, n, p, what));
                        ONE.stays("stumbles of one", what * m, x -> x.stumbles(m, n, p, what));
                    }
                }
            }
            new Edges(T, LeapLane::new).stays("stumbles without a lane", -1, x -> x.stumbles(1, 1, 0, what));
        }
        LIVED.outside("stumbles(1, 1, 50, .)", 0, 1, -1, (x, v) -> x.stumbles(1, 1, 50, v));
        // by "leap child" as AHEAD tells: LEAPT 3 and 1 in TURN 1, then 2 in TURN 2, then nothing
        int[] leapt = {3, 4, 6, 6};
        for (int turns : new int[] {1, 2, 3, 60}) {
            for (int m : new int[] {1, 2, 10}) {
                LIVED.stays("stumbles(" + m + ", " + turns + ", 0, 0)", m * leapt[Math.min(3, turns)],
                    x -> x.stumbles(m, turns, 0, 0));
                LIVED.stays("stumbles(" + m + ", " + turns + ", 0, 1)", 0, x -> x.stumbles(m, turns, 0, 1));
            }
        }
    }

    /** So many times and TURNS, not one more. */
    private static void howMany() {
        for (int when : new int[] {58, 59, 60}) {
            LeapLane x = Told.of(TWO, "leap 1 if turn = " + when);
            x.force(0);
            for (int m = 1; m <= 10; m++) {
                T.due("stumbles(" + m + ", 59, 0, 0), who leap in TURN " + when, when < 59 ? m : 0, x.stumbles(m, 59, 0, 0));
                T.due("stumbles(" + m + ", 60, 0, 0), who leap in TURN " + when, when < 60 ? m : 0, x.stumbles(m, 60, 0, 0));
                T.due("stumbles(" + m + ", 60, 0, 1), who leap in TURN " + when, when < 60 ? 0 : m, x.stumbles(m, 60, 0, 1));
            }
        }
    }

    /** "is it below p": of a DRAW mod 100 by that number not, by one more so. "a DRAW mod how many: that one". */
    private static void whoStumbles() {
        for (int children = 2; children <= 7; children++) {
            for (int seed : SEEDS) {
                int[] draws = draws(seed, 2);
                int below = draws[0] % 100;
                for (int child = 1; child < children; child++) {
                    LeapLane x = Told.of("lane 6" + ";child 5 5 1".repeat(children), "leap 1 if child = " + child);
                    x.force(0);
                    x.seed(seed);
                    int one = draws[1] % children == child ? 0 : child;
                    String call = ", child " + child + " of " + children + " from x = " + seed;
                    T.due("p as the draw" + call, child, x.stumbles(1, 1, below, 0));
                    T.due("p 1 more than the draw" + call, one, x.stumbles(1, 1, below + 1, 0));
                    T.due("p 100" + call, one, x.stumbles(1, 1, 100, 0));
                    T.due("p 0" + call, child, x.stumbles(1, 1, 0, 0));
                    T.due("x as it was", seed, x.count(10));
                }
            }
        }
    }

    /** A DRAW mod 100 of 0 is below 1, but not below 0; one of 99 is below 100, but not below 99. */
    private static void leastAndGreatestDraw() {
        int seen = 0;
        for (int seed = 0; seed < 4000 && seen != 3; seed++) {
            int[] draws = draws(seed, 2);
            if (draws[1] % 2 == 1 && (draws[0] % 100 == 0 || draws[0] % 100 == 99)) {
                int p = draws[0] % 100;
                LeapLane x = Told.of(TWO);
                x.seed(seed);
                T.due("a draw of " + p + ", p " + p, 1, x.stumbles(1, 1, p, 0));
                T.due("a draw of " + p + ", p " + (p + 1), 0, x.stumbles(1, 1, p + 1, 0));
                seen |= p == 0 ? 1 : 2;
            }
        }
        T.due("both were seen", 3, seen);
    }

    /**
     * Games of many TURNS by all their DRAWS: of two without told BREATH, given 9 each, one leaps in each TURN until
     * that one who is behind has none.
     */
    private static void allDraws() {
        for (int seed : SEEDS) {
            for (int p : new int[] {1, 10, 30, 50, 90, 99, 100}) {
                LeapLane x = Told.of("lane 1;child 1 1 0;child 1 1 0");
                x.breath(0, 9);
                x.breath(1, 9);
                x.seed(seed);
                int[] draws = draws(seed, 10 * 2 * 20);
                int at = 0;
                int leapt = 0;
                int first = 0;
                for (int m = 1; m <= 10; m++) {
                    int[] breath = {9, 9};
                    int behind = 1;
                    for (int turn = 0; turn < 20; turn++) {
                        if (draws[at++] % 100 < p) {
                            breath[draws[at++] % 2] = 0;
                        }
                        if (breath[behind] > 0) {
                            breath[behind]--;
                            leapt++;
                            behind = 1 - behind;
                        }
                    }
                    first += behind == 1 ? 1 : 0;
                    T.due("stumbles(" + m + ", 20, " + p + ", 0) from x = " + seed, leapt, x.stumbles(m, 20, p, 0));
                    T.due("stumbles(" + m + ", 20, " + p + ", 1) from x = " + seed, first, x.stumbles(m, 20, p, 1));
                }
            }
        }
    }

    /** "that one has no BREATH then", whatever they had: they get 1 back in the same TURN, if some was told. */
    private static void noBreathThen() {
        // from x = 0 the DRAWS are 0, 21468, 9988: by p = 1 child 0 stumbles in TURN 0, and nobody in TURN 1
        LeapLane y = Told.of("lane 1;child 1 1 5;child 1 1 0", "leap 1 if breath = 1");
        y.leap(1, 1);
        y.breath(1, 9);
        y.leap(1, 1);
        y.force(0);
        // ORDER 21: child 0 is behind; without a stumble nobody leaps, with one in TURN 0 child 0 does in TURN 1
        T.due("no stumble", y.count(7), y.stumbles(1, 2, 0, 0));
        T.due("one stumble", y.count(7) + 1, y.stumbles(1, 2, 1, 0));
        T.due("one stumble, one turn", y.count(7), y.stumbles(1, 1, 1, 0));
        T.due("nothing stays", 5, y.child(0, 2));
    }

    // ---- promises 37 and 38: "IMAGES 0 to 3: all but the TAPE and the RULES, as it is"

    private static void imagesAsked() {
        LIVED.outside("image", 0, 3, -1, LeapLane::image);
        NO_CHILDREN.outside("image without children", 0, 3, -1, LeapLane::image);
        new Edges(T, LeapLane::new).outside("image without a lane", 0, 3, -1, LeapLane::image);
        // made are 1 and 2
        LIVED.outside("back", 1, 2, -1, LeapLane::back);
        NO_CHILDREN.outside("back of none", 0, -1, -1, LeapLane::back);
        new Edges(T, LeapLane::new).outside("back without a lane", 0, -1, -1, LeapLane::back);
        for (int made = 0; made < 4; made++) {
            int k = made;
            Edges e = new Edges(T, () -> withImage(k));
            e.outside("back, made is " + k, k, k, -1, LeapLane::back);
            T.due("image(" + k + ")", 1, Edges.lived().image(k));
            T.due("back(" + k + ")", 2, withImage(k).back(k));
        }
    }

    private static LeapLane withImage(int k) {
        LeapLane x = Told.of(TWO, "leap 1");
        x.turn();
        x.turn();
        x.image(k);
        x.turn();
        return x;
    }

    /** All four are kept by themselves, whatever happens then. */
    private static void fourImages() {
        LeapLane x = new LeapLane();
        List<List<String>> kept = new ArrayList<>();
        Told.rule(x, "leap 1");
        Told.rule(x, "leap 2");
        for (int k = 0; k < 4; k++) {
            Told.lane(x, "lane " + (k + 1) + ";child 5 9 3".repeat(k + 2));
            x.force(k % 3 - 1);
            x.seed(1000 + k);
            for (int i = 0; i < k; i++) {
                x.turn();
                x.note(10 * k + i, i);
            }
            T.due("image(" + k + ")", k, x.image(k));
            kept.add(askedOf(x));
        }
        Told.lane(x, "lane 6");
        x.force(0);
        x.seed(7);
        for (int again = 0; again < 2; again++) {
            for (int k = 3; k >= 0; k--) {
                T.due("back(" + k + ")", k, x.back(k));
                T.alike("behind back(" + k + ")", kept.get(k), askedOf(x));
                x.turn();
                x.stoop(0, 20);
                x.stoop(1, 20);
                x.breath(1, 9);
                x.front(1);
                x.note(-1, 0);
                x.note(5, 1);
                x.seed(1);
                x.force(1);
            }
        }
        T.due("image(0) anew", 1, x.image(0));
        List<String> anew = askedOf(x);
        T.due("back(3)", 3, x.back(3));
        T.due("back(0)", 1, x.back(0));
        T.alike("behind back(0)", anew.subList(0, 9), askedOf(x).subList(0, 9));
        T.due("its acts", 0, x.count(9));
    }

    /** All that belongs to an IMAGE, the ACTS apart; what of NOTES and of the text as told is seen by what is asked. */
    private static List<String> askedOf(LeapLane x) {
        List<String> all = new ArrayList<>();
        for (int what : new int[] {0, 1, 3, 4, 5, 6, 7, 8, 10}) {
            all.add("count(" + what + ") = " + x.count(what));
        }
        all.add("order() = " + x.order());
        for (int child = 0; child < x.count(1); child++) {
            for (int what = 0; what < 6; what++) {
                all.add("child(" + child + ", " + what + ") = " + x.child(child, what));
            }
            all.add("leapsOf(" + child + ") = " + x.leapsOf(child));
            all.add("backsOf(" + child + ") = " + x.backsOf(child));
            all.add("first(" + child + ") = " + x.first(child));
        }
        all.add("ruled(0) = " + x.ruled(0));
        all.add("orders(30) = " + x.orders(30));
        all.add("ahead(0, 9, 0) = " + x.ahead(0, 9, 0));
        all.add("stumbles(3, 9, 50, 0) = " + x.stumbles(3, 9, 50, 0));
        return all;
    }

    /** NOTES of an IMAGE are those that were told then: their TURNS and their CHILDREN. */
    private static void notesOfImages() {
        LeapLane x = Told.of("lane 1;child 5 9 3;child 5 9 3");
        x.note(0, 1);
        x.image(0);
        x.note(-1, 0);
        x.note(1, 1);
        x.image(1);
        x.note(-1, 0);
        x.note(0, 0);
        x.image(2);
        T.due("1 first behind TURN 0", 0, x.back(0));
        T.due("so without a rule", 1, x.ruled(0));
        T.due("by what leaps", 0x1fffe0, x.leapsOf(1));
        T.due("1 first behind TURN 1", 0, x.back(1));
        T.due("not so", 0, x.ruled(0));
        // child 1 leaps, but 0 does not leap back
        T.due("by what leaps of child 0", 0x1e, x.leapsOf(0));
        T.due("0 first behind TURN 0", 0, x.back(2));
        T.due("not so", 0, x.ruled(0));
        T.due("by what leaps", 0x1e, x.leapsOf(1));
        T.due("one note", 1, x.count(8));
        for (int many = 2; many <= 10; many++) {
            T.due("more of them", many, x.note(60, 0));
        }
        T.due("image of ten", 0, x.image(3));
        T.due("back to one", 0, x.back(0));
        T.due("a second one", 2, x.note(60, 0));
        T.due("back to ten", 0, x.back(3));
        T.due("an eleventh", -2, x.note(60, 0));
    }

    /** "all but the TAPE and the RULES .. (these stay; nothing can be UNDONE then)". */
    private static void whatStays() {
        LeapLane x = Edges.lived("leap 3");
        T.due("back(2)", 1, x.back(2));
        T.due("the tape stays", 6, x.count(11));
        T.due("nothing can be undone", 0, x.count(9));
        T.due("undo", -1, x.undo());
        T.due("a rule", 2, x.rule());
        T.due("its image", 1, x.image(3));
        T.due("back(1), ahead of all rules in force", 0, x.back(1));
        T.due("rules stay", 3, x.count(2));
        T.due("which is in force", -1, x.count(3));
        T.due("force(2)", -1, x.force(2));
        T.due("a turn", 1, x.turn());
        T.due("undo of what was done since", 0, x.undo());
        T.due("undo", -1, x.undo());
        T.due("back(2)", 1, x.back(2));
        T.due("which is in force", 1, x.count(3));
        // a refused back leaves ACTS as they are, an image, too
        x.turn();
        T.due("back(0), never made", -1, x.back(0));
        T.due("back(4)", -1, x.back(4));
        T.due("image(0)", 2, x.image(0));
        T.due("acts", 1, x.count(9));
        T.due("undo", 0, x.undo());
        T.due("TURN", 1, x.count(4));
        T.due("back(0)", 2, x.back(0));
    }

    /** An IMAGE can be made without a LANE, or of one without CHILDREN; gone back to, it is so again. */
    private static void imagesOfNothing() {
        LeapLane x = new LeapLane();
        T.due("image(3) without a lane", 0, x.image(3));
        Told.lane(x, "lane 4");
        x.turn();
        T.due("image(0) without children", 1, x.image(0));
        Told.lane(x, TWO);
        x.turn();
        x.turn();
        T.due("back(3)", 0, x.back(3));
        T.alike("behind back to no lane", Edges.state(new LeapLane()), Edges.state(x));
        T.due("turn()", -1, x.turn());
        T.due("ruled(0)", -3, x.ruled(0));
        T.due("fewest(0)", -1, x.fewest(0));
        T.due("back(0)", 1, x.back(0));
        T.due("its spring", 4, x.count(0));
        T.due("its order", 0, x.order());
        T.due("fewest(0)", 0, x.fewest(0));
        T.due("turn()", -2, x.turn());
    }

    public static void main(String[] args) {
        seeds();
        stumblesAsked();
        howMany();
        whoStumbles();
        leastAndGreatestDraw();
        allDraws();
        noBreathThen();
        imagesAsked();
        fourImages();
        notesOfImages();
        whatStays();
        imagesOfNothing();
        T.close();
    }
}

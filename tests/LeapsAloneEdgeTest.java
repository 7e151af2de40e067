/** The boundaries of promises 15 to 21, by leaps alone, each on both of its sides. */
public final class LeapsAloneEdgeTest {
    private static final Told T = new Told("LeapsAloneEdgeTest");
    /**
     * ORDER 132, SPRING 2: child 0 can leap both others, 1 can leap both others, 2 can leap 0. One leap leads to 312,
     * 123 and 213, two to 321 and 231.
     */
    private static final Edges LIVED = new Edges(T, Edges::lived);
    private static final Edges NO_CHILDREN = new Edges(T, () -> Told.of("lane 2"));
    private static final Edges ONE = new Edges(T, () -> Told.of("lane 2;child 5 6 0"));
    private static final Edges STUCK = new Edges(T, () -> Told.of("lane 6;child 5 4 9;child 5 4 9;child 5 4 9"));
    private static final Edges SEVEN = new Edges(T, () -> Told.of(free(1, 7)));

    /** All can leap all, whatever the BREATH. */
    private static String free(int spring, int children) {
        return "lane " + spring + ";child 20 20 0".repeat(children);
    }

    // ---- "an ORDER is told as a number of digits, of each CHILD its number and 1, the first CHILD first"

    private static boolean isOrder(int number, int children) {
        String digits = "1234567".substring(0, children);
        StringBuilder told = new StringBuilder(number == 0 ? "" : Integer.toString(number));
        for (int i = 0; i < children; i++) {
            int at = told.indexOf(digits.substring(i, i + 1));
            if (at < 0) {
                return false;
            }
            told.deleteCharAt(at);
        }
        return told.length() == 0;
    }

    /** "NONE: that is no ORDER of all CHILDREN": of all numbers those alone that have each digit once. */
    private static void whatIsAnOrder() {
        int[] factorials = {1, 1, 2, 6, 24, 120};
        for (int children = 0; children <= 5; children++) {
            LeapLane x = Told.of(free(6, children));
            int orders = 0;
            for (int number = -60000; number <= 130000; number++) {
                boolean is = isOrder(number, children);
                int fewest = x.fewest(number);
                orders += is ? 1 : 0;
                if (fewest >= 0 != is) {
                    T.due("fewest(" + number + ") of " + children + " is told", is ? 1 : 0, fewest);
                }
                int step = x.step(number, 0, 0);
                if (step == -1 == is) {
                    T.due("step(" + number + ", 0, 0) of " + children + " is told", is ? 1 : 0, step);
                }
            }
            T.due("orders of " + children, factorials[children], orders);
        }
    }

    private static void ordersOfSeven() {
        LeapLane x = Told.of(free(1, 7));
        for (int order : new int[] {1234567, 7654321, 7123456, 2345671, 1234576}) {
            T.due("fewest(" + order + ") is told", 1, x.fewest(order) >= 0 ? 1 : 0);
        }
        for (int order : new int[] {0, 1, 7, 123456, 765432, 1234566, 1234568, 1234560, 1234507, 234567, 8234567, 8765432,
            7654322, 7654320, 12345678, 12345670, 11234567, 71234567, 123456712, 1234567890, 2147483647, -1, -1234567,
            -7654321, -2147483648}) {
            SEVEN.stays("fewest(" + order + ")", -1, y -> y.fewest(order));
            SEVEN.stays("step(" + order + ", 0, 0)", -1, y -> y.step(order, 0, 0));
            SEVEN.stays("step(" + order + ", 30, 1)", -1, y -> y.step(order, 30, 1));
        }
    }

    // ---- promise 15

    private static void fewest() {
        int[][] due = {{132, 0}, {312, 1}, {123, 1}, {213, 1}, {321, 2}, {231, 2}};
        for (int[] row : due) {
            LIVED.stays("fewest(" + row[0] + ")", row[1], x -> x.fewest(row[0]));
        }
        LIVED.outside("fewest", 1, 0, -1, LeapLane::fewest);
        LIVED.stays("fewest(13)", -1, x -> x.fewest(13));
        LIVED.stays("fewest(1324)", -1, x -> x.fewest(1324));
        LIVED.stays("fewest(-132)", -1, x -> x.fewest(-132));
        STUCK.stays("fewest of this order", 0, x -> x.fewest(123));
        STUCK.stays("fewest of what can't be reached", -2, x -> x.fewest(132));
        STUCK.stays("fewest of what can't be reached", -2, x -> x.fewest(321));
        NO_CHILDREN.stays("fewest(0) without children", 0, x -> x.fewest(0));
        NO_CHILDREN.outside("fewest without children", 0, 0, -1, LeapLane::fewest);
        ONE.stays("fewest(1) of one", 0, x -> x.fewest(1));
        ONE.outside("fewest of one", 1, 1, -1, LeapLane::fewest);
        SEVEN.stays("fewest of seven turned round", 21, x -> x.fewest(7654321));
        SEVEN.stays("fewest of the last two changed", 1, x -> x.fewest(1234576));
    }

    // ---- promise 16

    private static void steps() {
        // 231: child 1 leaps 2 and 0, then child 2 leaps 0
        int[][] due = {{1, 2}, {2, 1}};
        for (int i = 0; i < 2; i++) {
            for (int w = 0; w < 2; w++) {
                int step = i;
                int what = w;
                LIVED.stays("step(231, " + i + ", " + w + ")", due[i][w], x -> x.step(231, step, what));
            }
        }
        for (int w = 0; w < 2; w++) {
            int what = w;
            LIVED.stays("step(231, 2, " + w + ")", -2, x -> x.step(231, 2, what));
            LIVED.stays("step(231, MAX, " + w + ")", -2, x -> x.step(231, Integer.MAX_VALUE, what));
            LIVED.stays("step(132, 0, " + w + "), this order", -2, x -> x.step(132, 0, what));
            LIVED.outside("step(231, ., " + w + ")", 0, Integer.MAX_VALUE - 1, -1, LeapsAloneEdgeTest::stepBelow);
            LIVED.outside("step(., 0, " + w + ")", 1, 0, -1, (x, v) -> x.step(v, 0, what));
            STUCK.stays("step(321, 0, " + w + "), not to be reached", -2, x -> x.step(321, 0, what));
            STUCK.stays("step(321, 30, " + w + "), not to be reached", -2, x -> x.step(321, 30, what));
            STUCK.stays("step(321, -1, " + w + "), not to be reached", -1, x -> x.step(321, -1, what));
            STUCK.stays("step(123, 0, " + w + "), this order", -2, x -> x.step(123, 0, what));
            NO_CHILDREN.stays("step(0, 0, " + w + ") without children", -2, x -> x.step(0, 0, what));
            NO_CHILDREN.stays("step(1, 0, " + w + ") without children", -1, x -> x.step(1, 0, what));
            NO_CHILDREN.stays("step(0, -1, " + w + ") without children", -1, x -> x.step(0, -1, what));
            ONE.stays("step(1, 0, " + w + ") of one", -2, x -> x.step(1, 0, what));
        }
        LIVED.outside("step(231, 0, .)", 0, 1, -1, (x, v) -> x.step(231, 0, v));
        LIVED.outside("step(132, 0, .), this order", 0, 1, -1, (x, v) -> x.step(132, 0, v));
        STUCK.outside("step(321, 0, .), not to be reached", 0, 1, -1, (x, v) -> x.step(321, 0, v));
        SEVEN.stays("step(7654321, 20, 1)", 1, x -> x.step(7654321, 20, 1));
        SEVEN.stays("step(7654321, 21, 1)", -2, x -> x.step(7654321, 21, 1));
    }

    /** What is far beyond is no wrong number, but there is none such. */
    private static int stepBelow(LeapLane x, int i) {
        return i == Integer.MAX_VALUE ? x.step(231, -1, 0) : x.step(231, i, 0);
    }

    /** The STEPS to each ORDER, leapt by hand one by one, lead there in as many as FEWEST tells. */
    private static void stepsLeadThere() {
        String lane = "lane 3;child 9 12 9;child 11 9 9;child 12 10 9;child 8 12 9;child 10 20 9";
        LeapLane asked = Told.of(lane);
        int reached = 0;
        for (int order = 12345; order <= 54321; order++) {
            int fewest = asked.fewest(order);
            if (fewest < 0) {
                continue;
            }
            LeapLane x = Told.of(lane);
            for (int i = 0; i < fewest; i++) {
                int who = asked.step(order, i, 0);
                int backs = asked.step(order, i, 1);
                x.breath(who, 1);
                T.due("step " + i + " to " + order, x.child(who, 3) - backs, x.leap(who, backs));
                T.due("fewest from there on", fewest - i - 1, x.fewest(order));
            }
            T.due("the steps to " + order + " lead to", order, x.order());
            T.due("step behind the last to " + order, -2, asked.step(order, fewest, 0));
            reached++;
        }
        T.due("as many as ORDERS tells", asked.orders(30), reached);
        T.due("which are not few", 1, reached > 20 ? 1 : 0);
        T.due("and not all: 2 never leaps 1", 1, reached < 120 ? 1 : 0);
    }

    /** "the first (by who leaps, then by how many backs, of the first LEAP, then of the others)". */
    private static void firstOfAllRows() {
        LeapLane x = Told.of(free(3, 4));
        // 4321: all but child 0 leap once each, in any order so that it comes out: first 1 over 0, then 2, then 3
        int[][] due = {{1, 1}, {2, 2}, {3, 3}};
        for (int i = 0; i < 3; i++) {
            T.due("step(4321, " + i + ", 0)", due[i][0], x.step(4321, i, 0));
            T.due("step(4321, " + i + ", 1)", due[i][1], x.step(4321, i, 1));
        }
        // 3412: 2 over 0 and 1, then 3 over them; or 3 over them, then 2 over three
        T.due("step(3412, 0, 0)", 2, x.step(3412, 0, 0));
        T.due("step(3412, 0, 1)", 2, x.step(3412, 0, 1));
        T.due("step(3412, 1, 0)", 3, x.step(3412, 1, 0));
        T.due("step(3412, 1, 1)", 2, x.step(3412, 1, 1));
        // 4312: 2 over two, then 3 over three; or 3 over three, then 2 over two, but that begins with 3
        T.due("step(4312, 0, 0)", 2, x.step(4312, 0, 0));
        T.due("step(4312, 1, 0)", 3, x.step(4312, 1, 0));
        T.due("step(4312, 1, 1)", 3, x.step(4312, 1, 1));
        LeapLane y = Told.of(free(4, 6));
        // child 5 to the front takes two leaps: over 1 and 4, 2 and 3, 3 and 2, or 4 and 1
        T.due("fewest(612345)", 2, y.fewest(612345));
        T.due("step(612345, 0, 1)", 1, y.step(612345, 0, 1));
        T.due("step(612345, 1, 1)", 4, y.step(612345, 1, 1));
    }

    // ---- promises 17 and 18

    private static void orders() {
        LIVED.outside("orders", 0, 30, -1, LeapLane::orders);
        int[] due = {1, 4, 6};
        for (int n = 0; n <= 30; n++) {
            int within = n;
            LIVED.stays("orders(" + n + ")", due[Math.min(2, n)], x -> x.orders(within));
            STUCK.stays("orders(" + n + ") of who are stuck", 1, x -> x.orders(within));
            NO_CHILDREN.stays("orders(" + n + ") without children", 1, x -> x.orders(within));
            ONE.stays("orders(" + n + ") of one", 1, x -> x.orders(within));
        }
        NO_CHILDREN.outside("orders without children", 0, 30, -1, LeapLane::orders);
        // of seven by one back at a time: how many have so many twos the wrong way round
        int[] seven = {1, 6, 20, 49, 98, 169, 259, 359, 455, 531, 573, 573, 531, 455, 359, 259, 169, 98, 49, 20, 6, 1};
        LeapLane x = Told.of(free(1, 7));
        int all = 0;
        for (int n = 0; n <= 30; n++) {
            all += n < seven.length ? seven[n] : 0;
            T.due("orders(" + n + ") of seven", all, x.orders(n));
        }
        T.due("all of them", 5040, all);
    }

    private static void farthest() {
        LIVED.outside("farthest", 0, 1, -1, LeapLane::farthest);
        LIVED.stays("farthest(0)", 2, x -> x.farthest(0));
        LIVED.stays("farthest(1), of 231 and 321 the least", 231, x -> x.farthest(1));
        STUCK.stays("farthest(0) of who are stuck", 0, x -> x.farthest(0));
        STUCK.stays("farthest(1) of who are stuck", 123, x -> x.farthest(1));
        NO_CHILDREN.stays("farthest(0) without children", 0, x -> x.farthest(0));
        NO_CHILDREN.stays("farthest(1) without children", 0, x -> x.farthest(1));
        NO_CHILDREN.outside("farthest without children", 0, 1, -1, LeapLane::farthest);
        ONE.stays("farthest(0) of one", 0, x -> x.farthest(0));
        ONE.stays("farthest(1) of one", 1, x -> x.farthest(1));
        SEVEN.stays("farthest(0) of seven", 21, x -> x.farthest(0));
        SEVEN.stays("farthest(1) of seven", 7654321, x -> x.farthest(1));
        // by leaps over any, all behind the first one that stays have to leap: the least is 2345671
        LeapLane wide = Told.of(free(6, 7));
        T.due("farthest(0) of seven, spring 6", 6, wide.farthest(0));
        T.due("farthest(1) of seven, spring 6", 2345671, wide.farthest(1));
        // turned round, one back at a time, the least number is the farthest
        for (int child = 1; child < 7; child++) {
            wide.front(child);
        }
        T.due("farthest(0) from 7654321", 6, wide.farthest(0));
        T.due("farthest(1) from 7654321", 1234567, wide.farthest(1));
    }

    // ---- promises 19 to 21

    private static void firstAndBehind() {
        LIVED.outside("first", 0, 2, -1, LeapLane::first);
        LIVED.outside("behind", 0, 2, -1, LeapLane::behind);
        NO_CHILDREN.outside("first without children", 0, -1, -1, LeapLane::first);
        NO_CHILDREN.outside("behind without children", 0, -1, -1, LeapLane::behind);
        ONE.outside("first of one", 0, 0, -1, LeapLane::first);
        ONE.outside("behind of one", 0, 0, -1, LeapLane::behind);
        SEVEN.outside("first of seven", 0, 6, -1, LeapLane::first);
        SEVEN.outside("behind of seven", 0, 6, -1, LeapLane::behind);
        ONE.stays("first(0) of one", 0, x -> x.first(0));
        ONE.stays("behind(0) of one", 0, x -> x.behind(0));
        int[] soonest = {0, 1, 1};
        int[] never = {0, -2, -2};
        for (int c = 0; c < 3; c++) {
            int child = c;
            LIVED.stays("first(" + c + ")", soonest[c], x -> x.first(child));
            LIVED.stays("behind(" + c + ")", 0, x -> x.behind(child));
            STUCK.stays("first(" + c + ") of who are stuck", never[c], x -> x.first(child));
            STUCK.stays("behind(" + c + ") of who are stuck", (1 << c) - 1, x -> x.behind(child));
        }
        LeapLane stuck = Told.of("lane 6" + ";child 5 4 9".repeat(7));
        for (int child = 0; child < 7; child++) {
            T.due("behind(" + child + ") of seven who are stuck", (1 << child) - 1, stuck.behind(child));
            T.due("first(" + child + ") of seven who are stuck", child == 0 ? 0 : -2, stuck.first(child));
            T.due("first(" + child + ") of seven", child, Told.of(free(1, 7)).first(child));
            T.due("behind(" + child + ") of seven", 0, Told.of(free(1, 7)).behind(child));
            for (int spring = 1; spring <= 6; spring++) {
                T.due("first(" + child + ") by spring " + spring, (child + spring - 1) / spring,
                    Told.of(free(spring, 7)).first(child));
            }
        }
        // one who passed for ever is ahead for ever
        LeapLane x = Told.of("lane 1;child 5 4 9;child 5 5 9;child 6 4 9");
        T.due("behind(0)", 0, x.behind(0));
        T.due("behind(1)", 0, x.behind(1));
        T.due("behind(2)", 3, x.behind(2));
        x.leap(1, 1);
        T.due("behind(0)", 2, x.behind(0));
        T.due("behind(1)", 0, x.behind(1));
        T.due("first(0)", -2, x.first(0));
        x.front(2);
        T.due("behind(2)", 0, x.behind(2));
        T.due("behind(0)", 2 + 4, x.behind(0));
        T.due("behind(1)", 4, x.behind(1));
    }

    /** "SOURCES: how many ORDERS there are from which one LEAP leads to this one." */
    private static void sources() {
        LIVED.stays("sources()", 2, LeapLane::sources);
        NO_CHILDREN.stays("sources() without children", 0, LeapLane::sources);
        ONE.stays("sources() of one", 0, LeapLane::sources);
        STUCK.stays("sources() of who are stuck", 0, LeapLane::sources);
        int[] bySpring = {6, 11, 15, 18, 20, 21};
        for (int spring = 1; spring <= 6; spring++) {
            T.due("sources() of seven, spring " + spring, bySpring[spring - 1], Told.of(free(spring, 7)).sources());
        }
        // the first one alone leaps, backs as high as their LEAP, but not one higher
        LeapLane x = Told.of("lane 6;child 20 9 0" + ";child 9 8 0".repeat(6));
        T.due("over backs as high as the leap", 6, x.sources());
        x.stoop(6, 10);
        T.due("the last one is higher", 5, x.sources());
        x.stoop(3, 10);
        T.due("the third one behind is higher", 2, x.sources());
        x.stoop(1, 10);
        T.due("the one behind is higher", 0, x.sources());
    }

    /** What was asked of one ORDER, SPRING, BACK or LEAP is nothing to what is asked of another one. */
    private static void askedAnew() {
        LeapLane x = Told.of("lane 1;child 5 4 9;child 5 4 9");
        T.due("stuck", 1, x.orders(30));
        x.stoop(0, 4);
        T.due("of the first one's back", 2, x.orders(30));
        x.stoop(1, 4);
        T.due("of both backs", 2, x.orders(30));
        T.due("and back again", 1, x.first(1));
        x.undo();
        x.undo();
        T.due("undone", 1, x.orders(30));
        T.due("undone", -2, x.first(1));
        x.front(1);
        T.due("of another order", 0, x.fewest(21));
        T.due("of another order", -2, x.fewest(12));
        LeapLane y = Told.of(free(6, 7));
        T.due("seven, spring 6", 21 + 1, y.orders(1));
        y.image(0);
        Told.lane(y, free(1, 7));
        T.due("seven, spring 1", 6 + 1, y.orders(1));
        Told.lane(y, "lane 1" + ";child 20 19 0".repeat(7));
        T.due("seven who are stuck", 1, y.orders(30));
        T.due("the second one is never first", -2, y.first(1));
        Told.lane(y, free(1, 2));
        T.due("two", 2, y.orders(30));
        Told.lane(y, "lane 1");
        T.due("nobody", 1, y.orders(30));
        T.due("back", 0, y.back(0));
        T.due("seven, spring 6, again", 21 + 1, y.orders(1));
        T.due("seven, spring 6, again", 6, y.fewest(2345671));
        y.leap(6, 1);
        T.due("a leap that could not be", 0, y.fewest(y.order()));
        y.breath(6, 1);
        y.leap(6, 6);
        T.due("behind a leap", 0, y.fewest(7123456));
        y.turn();
        T.due("behind a turn in which nobody leaps", 0, y.fewest(7123456));
        y.undo();
        y.undo();
        T.due("undone", 1, y.fewest(7123456));
    }

    public static void main(String[] args) {
        whatIsAnOrder();
        ordersOfSeven();
        fewest();
        steps();
        stepsLeadThere();
        firstOfAllRows();
        orders();
        farthest();
        firstAndBehind();
        sources();
        askedAnew();
        T.close();
    }
}

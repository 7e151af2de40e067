/** Promises 15 to 21: fewest, step, orders, farthest, first, behind, sources. */
public final class LeapsAloneTest {
    private static final Told T = new Told("LeapsAloneTest");

    private static String free(int spring, int children) {
        return "lane " + spring + ";child 1 20 0".repeat(children);
    }

    /** Three who can leap all, one back at a time: the order's swaps are counted. */
    private static void oneAtATime() {
        LeapLane x = Told.of(free(1, 3));
        int[][] fewest = {{123, 0}, {213, 1}, {132, 1}, {231, 2}, {312, 2}, {321, 3}};
        for (int[] due : fewest) {
            T.due("fewest(" + due[0] + ")", due[1], x.fewest(due[0]));
        }
        int[] orders = {1, 3, 5, 6, 6};
        for (int n = 0; n < orders.length; n++) {
            T.due("orders(" + n + ")", orders[n], x.orders(n));
        }
        T.due("orders(30)", 6, x.orders(30));
        T.due("orders(31)", -1, x.orders(31));
        T.due("orders(-1)", -1, x.orders(-1));
        T.due("farthest(0)", 3, x.farthest(0));
        T.due("farthest(1)", 321, x.farthest(1));
        T.due("farthest(2)", -1, x.farthest(2));
        T.due("farthest(-1)", -1, x.farthest(-1));
        T.due("first(2)", 2, x.first(2));
        T.due("sources", 2, x.sources());
        // to 321 child 1 leaps 0, then 2 leaps 0, then 2 leaps 1; the other row begins with child 2
        int[][] steps = {{1, 1}, {2, 1}, {2, 1}};
        for (int i = 0; i < 3; i++) {
            T.due("step(321, " + i + ", 0)", steps[i][0], x.step(321, i, 0));
            T.due("step(321, " + i + ", 1)", steps[i][1], x.step(321, i, 1));
        }
        T.due("step(321, 3, 0)", -2, x.step(321, 3, 0));
        T.due("step(123, 0, 0)", -2, x.step(123, 0, 0));
        T.due("nothing changed", 123, x.order());
        T.due("nothing to be undone", 0, x.count(9));
    }

    private static void twoAtATime() {
        LeapLane x = Told.of(free(2, 3));
        int[][] fewest = {{123, 0}, {213, 1}, {132, 1}, {312, 1}, {231, 2}, {321, 2}};
        for (int[] due : fewest) {
            T.due("fewest(" + due[0] + ")", due[1], x.fewest(due[0]));
        }
        T.due("orders(1)", 4, x.orders(1));
        T.due("farthest(0)", 2, x.farthest(0));
        T.due("farthest(1), of several the least", 231, x.farthest(1));
        T.due("first(2)", 1, x.first(2));
        T.due("sources", 3, x.sources());
        // to 321: 1 over one, 2 over two; or 2 over two, 1 over one: the first by who leaps first
        T.due("step(321, 0, 0)", 1, x.step(321, 0, 0));
        T.due("step(321, 0, 1)", 1, x.step(321, 0, 1));
        T.due("step(321, 1, 0)", 2, x.step(321, 1, 0));
        T.due("step(321, 1, 1)", 2, x.step(321, 1, 1));
        T.due("step(231, 1, 0)", 2, x.step(231, 1, 0));
        T.due("step(231, 1, 1)", 1, x.step(231, 1, 1));
    }

    /** Two rows of leaps that differ in how many backs the first one leaps alone. */
    private static void fewerBacksFirst() {
        LeapLane x = Told.of(free(2, 4));
        // 4123 takes child 3 two leaps: over one, then two, or over two, then one
        T.due("fewest(4123)", 2, x.fewest(4123));
        T.due("step(4123, 0, 0)", 3, x.step(4123, 0, 0));
        T.due("step(4123, 0, 1)", 1, x.step(4123, 0, 1));
        T.due("step(4123, 1, 0)", 3, x.step(4123, 1, 0));
        T.due("step(4123, 1, 1)", 2, x.step(4123, 1, 1));
    }

    private static void wrongAsked() {
        LeapLane x = Told.of(free(1, 3));
        int[] wrong = {0, 1, 12, 124, 122, 1123, 1234, 23, 103, 320, -123, -1, Integer.MIN_VALUE, Integer.MAX_VALUE};
        for (int order : wrong) {
            T.due("fewest(" + order + ")", -1, x.fewest(order));
            T.due("step(" + order + ", 0, 0)", -1, x.step(order, 0, 0));
        }
        T.due("step(321, -1, 0)", -1, x.step(321, -1, 0));
        T.due("step(321, 0, 2)", -1, x.step(321, 0, 2));
        T.due("step(321, 0, -1)", -1, x.step(321, 0, -1));
        T.due("step far on", -2, x.step(321, Integer.MAX_VALUE, 1));
        T.due("first(3)", -1, x.first(3));
        T.due("first(-1)", -1, x.first(-1));
        T.due("behind(3)", -1, x.behind(3));
        T.due("behind(-1)", -1, x.behind(-1));
    }

    private static void stuckForEver() {
        LeapLane x = Told.of("lane 6;child 5 4 9;child 5 4 9;child 5 4 9");
        T.due("orders(30)", 1, x.orders(30));
        T.due("farthest(0)", 0, x.farthest(0));
        T.due("farthest(1)", 123, x.farthest(1));
        T.due("fewest(213)", -2, x.fewest(213));
        T.due("step(213, 0, 0)", -2, x.step(213, 0, 0));
        T.due("first(0)", 0, x.first(0));
        T.due("first(1)", -2, x.first(1));
        T.due("behind(0)", 0, x.behind(0));
        T.due("behind(2)", 3, x.behind(2));
        T.due("sources", 0, x.sources());
    }

    private static void oneWay() {
        LeapLane x = Told.of("lane 1;child 5 4 9;child 5 5 9");
        T.due("sources", 0, x.sources());
        T.due("behind(0)", 0, x.behind(0));
        T.due("behind(1)", 0, x.behind(1));
        T.due("fewest(21)", 1, x.fewest(21));
        x.leap(1, 1);
        T.due("sources", 1, x.sources());
        T.due("behind(0)", 2, x.behind(0));
        T.due("behind(1)", 0, x.behind(1));
        T.due("fewest(12)", -2, x.fewest(12));
        T.due("first(0)", -2, x.first(0));
        x.stoop(1, 4);
        T.due("it stooped: fewest(12)", 1, x.fewest(12));
        T.due("it stooped: sources", 1, x.sources());
        T.due("it stooped: first(0)", 1, x.first(0));
        x.undo();
        T.due("undone: fewest(12)", -2, x.fewest(12));
    }

    /** Backs 5 8 4 9, leaps 9 6 7 5: 1 can leap 0 and 2; 2 can leap 0; 3 can leap 0 and 2; 0 can leap all. */
    private static void four() {
        LeapLane x = Told.of("lane 2;child 5 9 3;child 8 6 2;child 4 7 1;child 9 5 5");
        // child 2 can't get past 1, nor 3 past 1; so 1 is ahead of both unless they get there by nobody's leap
        T.due("behind(2)", 2, x.behind(2));
        T.due("behind(3)", 2, x.behind(3));
        T.due("behind(1)", 0, x.behind(1));
        T.due("behind(0)", 0, x.behind(0));
        T.due("first(0)", 0, x.first(0));
        T.due("first(1)", 1, x.first(1));
        T.due("first(2)", -2, x.first(2));
        // 1 ahead of 2 and 3; 3 gets past 2; 0 is anywhere: 4 places * 2
        T.due("orders(30)", 8, x.orders(30));
        T.due("fewest(2134)", 1, x.fewest(2134));
        // 1 over 0, 3 over 2 and 0, 2 over 0
        T.due("fewest(2431)", 3, x.fewest(2431));
        T.due("fewest(3124)", -2, x.fewest(3124));
        // sources of 1234: 0 leapt 1, or 1 and 2; 1 leapt 2; nobody else could
        T.due("sources", 3, x.sources());
    }

    private static void edges() {
        LeapLane none = Told.of("lane 1");
        T.due("no children: fewest(0)", 0, none.fewest(0));
        T.due("no children: fewest(1)", -1, none.fewest(1));
        T.due("no children: step", -2, none.step(0, 0, 0));
        T.due("no children: orders(0)", 1, none.orders(0));
        T.due("no children: farthest(0)", 0, none.farthest(0));
        T.due("no children: farthest(1)", 0, none.farthest(1));
        T.due("no children: sources", 0, none.sources());
        LeapLane seven = Told.of(free(1, 7));
        T.due("seven: orders(30)", 5040, seven.orders(30));
        T.due("seven: orders(20)", 5039, seven.orders(20));
        T.due("seven: orders(1)", 7, seven.orders(1));
        T.due("seven: farthest(0)", 21, seven.farthest(0));
        T.due("seven: farthest(1)", 7654321, seven.farthest(1));
        T.due("seven: fewest", 21, seven.fewest(7654321));
        T.due("seven: step", 1, seven.step(7654321, 0, 0));
        T.due("seven: step", 6, seven.step(7654321, 20, 0));
        T.due("seven: first(6)", 6, seven.first(6));
        T.due("seven: sources", 6, seven.sources());
        T.due("another lane", 3, Told.lane(seven, free(1, 3)));
        T.due("three then: orders(30)", 6, seven.orders(30));
        T.due("another spring", 3, Told.lane(seven, free(2, 3)));
        T.due("spring 2 then: orders(1)", 4, seven.orders(1));
        LeapLane wide = Told.of(free(6, 7));
        T.due("spring 6: first(6)", 1, wide.first(6));
        T.due("spring 6: orders(1)", 22, wide.orders(1));
        T.due("spring 6: farthest(0)", 6, wide.farthest(0));
        T.due("spring 6: sources", 21, wide.sources());
    }

    public static void main(String[] args) {
        oneAtATime();
        twoAtATime();
        fewerBacksFirst();
        wrongAsked();
        stuckForEver();
        oneWay();
        four();
        edges();
        T.close();
    }
}

/** The boundaries of promises 26, 27 and 31 to 33, of what was noted, each on both of its sides. */
public final class NoteEdgeTest {
    private static final Told T = new Told("NoteEdgeTest");
    /** By no rule child 0 is first behind TURN 2, as noted; by "leap 1" and by "leap child" not. */
    private static final Edges LIVED = new Edges(T, Edges::lived);
    private static final Edges NO_CHILDREN = new Edges(T, () -> Told.of("lane 2", "leap 1"));
    private static final Edges ONE = new Edges(T, () -> Told.of("lane 2;child 5 6 7"));
    private static final Edges TEN = new Edges(T, NoteEdgeTest::tenNotes);
    private static final String TWO = "lane 1;child 5 9 3;child 5 9 3";
    private static final int ALL = 0x1ffffe;

    /** Ten NOTES, all as it goes without a RULE: child 1 is first behind even TURNS, child 0 behind odd ones. */
    private static LeapLane tenNotes() {
        LeapLane x = Told.of(TWO, "leap 1", "leap 0");
        for (int i = 0; i < 10; i++) {
            x.note(new int[] {0, 1, 60, 59, 2, 3, 60, 30, 31, 0}[i], new int[] {1, 0, 1, 0, 1, 0, 1, 1, 0, 1}[i]);
        }
        return x;
    }

    private static int bits(int from, int to) {
        int bits = 0;
        for (int number = from; number <= to; number++) {
            bits |= 1 << number;
        }
        return bits;
    }

    // ---- promise 31: "NOTES 0 to 9, told: behind the n-th TURN of all (0 to 60) a CHILD was first."

    private static void notesAsked() {
        for (int c = 0; c < 3; c++) {
            int child = c;
            LIVED.outside("note(., " + c + ")", -1, 60, -2, (x, v) -> x.note(v, child));
        }
        LIVED.outside("note(0, .)", 0, 2, -2, (x, v) -> x.note(0, v));
        LIVED.outside("note(60, .)", 0, 2, -2, (x, v) -> x.note(60, v));
        NO_CHILDREN.outside("note(0, .) without children", 0, -1, -2, (x, v) -> x.note(0, v));
        NO_CHILDREN.outside("note(., 0) without children", -1, -1, -2, (x, v) -> x.note(v, 0));
        ONE.outside("note(0, .) of one", 0, 0, -2, (x, v) -> x.note(0, v));
        for (int n = 0; n <= 60; n++) {
            for (int child = 0; child < 3; child++) {
                LeapLane x = Edges.lived();
                T.due("note(" + n + ", " + child + ")", 3, x.note(n, child));
                T.due("notes then", 3, x.count(8));
                T.due("acts then", 5, x.count(9));
            }
        }
    }

    /** "or if there are 10"; "n NONE: there are none then, 0". */
    private static void tenOfThem() {
        LeapLane x = Edges.lived();
        for (int many = 3; many <= 10; many++) {
            T.due("note " + many, many, x.note(60, 2));
        }
        T.due("an eleventh", -2, x.note(60, 2));
        T.due("notes", 10, x.count(8));
        for (int n : new int[] {0, 1, 59, 60, 61, -2}) {
            TEN.stays("an eleventh, note(" + n + ", 0)", -2, y -> y.note(n, 0));
            TEN.stays("an eleventh, note(" + n + ", 1)", -2, y -> y.note(n, 1));
        }
        for (int child : new int[] {Integer.MIN_VALUE, -2, -1, 0, 1, 2, 7, Integer.MAX_VALUE}) {
            LeapLane y = tenNotes();
            T.due("note(NONE, " + child + ")", 0, y.note(-1, child));
            T.due("notes then", 0, y.count(8));
            T.due("ruled then", 3, y.ruled(0));
            T.due("leaps then", ALL, y.leapsOf(0));
            T.due("note(NONE) of none", 0, y.note(-1, child));
            T.due("a first one", 1, y.note(0, 0));
            T.due("by 'leap 0' alone", 1, y.ruled(1));
            NO_CHILDREN.stays("note(NONE, " + child + ") without children", 0, z -> z.note(-1, child));
        }
    }

    /** All ten are looked at, and each of them. */
    private static void tenAreAsked() {
        TEN.stays("ruled(0) by ten", 2, x -> x.ruled(0));
        TEN.stays("ruled(1) by ten", -1, x -> x.ruled(1));
        TEN.stays("leapsOf(0) by ten", bits(5, 20), x -> x.leapsOf(0));
        TEN.stays("leapsOf(1) by ten", bits(5, 20), x -> x.leapsOf(1));
        TEN.stays("backsOf(0) by ten", bits(1, 9), x -> x.backsOf(0));
        TEN.stays("backsOf(1) by ten", bits(1, 9), x -> x.backsOf(1));
        TEN.stays("look(0) by ten", 0, x -> x.look(0));
        TEN.stays("look(1) by ten", 2, x -> x.look(1));
        for (int wrong = 0; wrong < 10; wrong++) {
            LeapLane x = Told.of(TWO, "leap 1", "leap 0");
            for (int i = 0; i < 10; i++) {
                x.note(6 * i, i == wrong ? 0 : 1);
            }
            T.due("ruled(0), of ten the note " + wrong + " is not so", 0, x.ruled(0));
            T.due("ruled(1), of ten the note " + wrong + " is not so", -2, x.ruled(1));
            T.due("leapsOf(0), of ten the note " + wrong + " is not so", 0, x.leapsOf(0));
            T.due("backsOf(1), of ten the note " + wrong + " is not so", 0, x.backsOf(1));
            T.due("look(0), of ten the note " + wrong + " is not so", -2, x.look(0));
        }
    }

    /** "behind the n-th TURN": TURN 0 is the first, and behind TURN 60 there is none that can be noted. */
    private static void whichTurn() {
        for (int n : new int[] {0, 1, 2, 30, 59, 60}) {
            for (int when = Math.max(0, n - 1); when <= n + 1; when++) {
                LeapLane x = Told.of(TWO, "leap 1 if turn = " + when);
                x.force(0);
                x.note(n, 1);
                boolean so = when <= n;
                String call = ", who leap in TURN " + when + ", first behind " + n;
                T.due("leapsOf(1)" + call, so ? bits(5, 20) : 0, x.leapsOf(1));
                T.due("leapsOf(0)" + call, so ? ALL : 0, x.leapsOf(0));
                T.due("backsOf(0)" + call, so ? bits(1, 9) : 0, x.backsOf(0));
                T.due("ruled(0)" + call, (so ? 1 : 0) + (n % 2 == 0 ? 1 : 0), x.ruled(0));
                x.note(-1, 0);
                x.note(n, 0);
                T.due("leapsOf(1)" + call + " not", so ? bits(1, 4) : ALL, x.leapsOf(1));
                T.due("backsOf(0)" + call + " not", so ? bits(10, 20) : ALL, x.backsOf(0));
            }
        }
    }

    // ---- promises 26 and 27: "numbers 1 to 20 as LEAP, in place of what the text told", "BACKS .. likewise as BACK"

    private static void leapsAndBacksAsked() {
        LIVED.outside("leapsOf", 0, 2, -1, LeapLane::leapsOf);
        LIVED.outside("backsOf", 0, 2, -1, LeapLane::backsOf);
        NO_CHILDREN.outside("leapsOf without children", 0, -1, -1, LeapLane::leapsOf);
        NO_CHILDREN.outside("backsOf without children", 0, -1, -1, LeapLane::backsOf);
        ONE.outside("leapsOf of one", 0, 0, -1, LeapLane::leapsOf);
        ONE.outside("backsOf of one", 0, 0, -1, LeapLane::backsOf);
        ONE.stays("leapsOf(0) of one, no NOTES", ALL, x -> x.leapsOf(0));
        ONE.stays("backsOf(0) of one, no NOTES", ALL, x -> x.backsOf(0));
        for (int c = 0; c < 3; c++) {
            int child = c;
            LIVED.stays("leapsOf(" + c + "), child 0 is worth 0", 0, x -> x.leapsOf(child));
            LIVED.stays("backsOf(" + c + "), child 0 is worth 0", 0, x -> x.backsOf(child));
        }
        LeapLane x = Told.of("lane 1" + ";child 5 5 1".repeat(7));
        for (int child = 0; child < 7; child++) {
            T.due("leapsOf(" + child + ") of seven, no NOTES", ALL, x.leapsOf(child));
            T.due("backsOf(" + child + ") of seven, no NOTES", ALL, x.backsOf(child));
        }
    }

    /** Child 1 leaps child 0 in TURN 0 by a LEAP from that one's BACK on; each number from 1 to 20 is told. */
    private static void eachLeapAndBack() {
        for (int number = 1; number <= 20; number++) {
            LeapLane x = Told.of("lane 1;child " + number + " 1 1;child 1 1 1");
            x.note(0, 1);
            T.due("leaps over a back of " + number, bits(number, 20), x.leapsOf(1));
            x.note(-1, 0);
            x.note(0, 0);
            T.due("leaps not over a back of " + number, bits(1, number - 1), x.leapsOf(1));
            LeapLane y = Told.of("lane 1;child 1 1 1;child 20 " + number + " 1");
            y.note(0, 1);
            T.due("backs for a leap of " + number, bits(1, number), y.backsOf(0));
            y.note(-1, 0);
            y.note(0, 0);
            T.due("backs not for a leap of " + number, bits(number + 1, 20), y.backsOf(0));
            LeapLane z = Told.of("lane 1;child 5 5 1;child 5 5 1", "leap 1 if leap = " + number, "leap 1 if back = " + number);
            z.note(0, 1);
            z.force(0);
            T.due("the word leap, of that alone", number < 5 ? 0 : 1 << number, z.leapsOf(1));
            z.force(1);
            T.due("the word back, of that alone", 1 << number, z.backsOf(1));
        }
    }

    /** "from the begin on, by the RULE IN FORCE, all else as the text told it": not as it is now. */
    private static void fromTheBegin() {
        LeapLane x = Told.of("lane 1;child 5 9 3;child 5 9 0", "leap 1");
        x.note(0, 1);
        T.due("without breath told", 0, x.leapsOf(1) | x.backsOf(0));
        x.breath(1, 9);
        T.due("breath that was given is not told", 0, x.leapsOf(1) | x.backsOf(0));
        T.due("it is now", 2, x.count(5));
        LeapLane y = Told.of(TWO, "leap 1", "leap 0");
        y.note(0, 1);
        y.front(1);
        y.stoop(0, 20);
        y.turn();
        T.due("orders and backs now are not told", bits(5, 20), y.leapsOf(1));
        T.due("orders and backs now are not told", bits(1, 9), y.backsOf(0));
        T.due("ruled as told", 2, y.ruled(0));
        y.force(0);
        T.due("by a RULE that does the same", bits(5, 20), y.leapsOf(1));
        y.force(1);
        T.due("by a RULE by which nobody leaps", 0, y.leapsOf(1) | y.backsOf(0));
        T.due("ruled whatever is in force", 2, y.ruled(0));
        T.due("ruled whatever is in force", -1, y.ruled(1));
    }

    // ---- promises 32 and 33

    private static void ruledAndLookAsked() {
        for (Edges e : new Edges[] {LIVED, NO_CHILDREN, ONE, TEN}) {
            e.outside("ruled", 0, 1, -3, LeapLane::ruled);
            e.outside("look", 0, 1, -1, LeapLane::look);
        }
        Edges none = new Edges(T, LeapLane::new);
        none.outside("ruled without a lane", 1, 0, -3, LeapLane::ruled);
        none.outside("look without a lane", 1, 0, -1, LeapLane::look);
        LIVED.stays("ruled(0)", 1, x -> x.ruled(0));
        LIVED.stays("ruled(1)", -1, x -> x.ruled(1));
        LIVED.stays("look(0) of none alone", 0, x -> x.look(0));
        LIVED.stays("look(1) of none alone", 1, x -> x.look(1));
        NO_CHILDREN.stays("ruled(0) without children", 2, x -> x.ruled(0));
        NO_CHILDREN.stays("ruled(1) without children", -1, x -> x.ruled(1));
        NO_CHILDREN.stays("look(0) without children", -2, x -> x.look(0));
        NO_CHILDREN.stays("look(1) without children", -2, x -> x.look(1));
        ONE.stays("ruled(0) without rules", 1, x -> x.ruled(0));
        ONE.stays("ruled(1) without rules", -1, x -> x.ruled(1));
        ONE.stays("look(0) of one child", 0, x -> x.look(0));
        ONE.stays("look(1) of one child", 1, x -> x.look(1));
    }

    /** By RULE r child 1 is first from behind TURN r on; without a RULE behind even TURNS. */
    private static LeapLane sixRules() {
        LeapLane x = Told.of(TWO);
        for (int r = 0; r < 6; r++) {
            Told.rule(x, "leap 1 if turn = " + r);
        }
        return x;
    }

    /** "which of the RULES, and of none ..: how many; the first (none ahead of 0, told as NONE)". */
    private static void ruledOfSix() {
        LeapLane x = sixRules();
        T.due("all six and none", 7, x.ruled(0));
        T.due("none is ahead of 0", -1, x.ruled(1));
        T.due("look(0): behind TURN 2 four have child 1, so have they behind TURN 3", 2, x.look(0));
        T.due("look(1)", 4, x.look(1));
        for (int r = 0; r < 6; r++) {
            LeapLane y = sixRules();
            if (r > 0) {
                y.note(r - 1, 0);
            }
            y.note(r, 1);
            y.note(r + 1, 1);
            T.due("rule " + r + " alone: ruled(0)", 1, y.ruled(0));
            T.due("rule " + r + " alone: ruled(1)", r, y.ruled(1));
            T.due("rule " + r + " alone: look(0)", 0, y.look(0));
            T.due("rule " + r + " alone: look(1)", 1, y.look(1));
            y.note(r + 1, 0);
            T.due("no rule: ruled(0)", 0, y.ruled(0));
            T.due("no rule: ruled(1)", -2, y.ruled(1));
            T.due("no rule: look(0)", -2, y.look(0));
            T.due("no rule: look(1)", -2, y.look(1));
            LeapLane z = sixRules();
            z.note(60, 1);
            z.note(59, 1);
            z.note(r == 0 ? 0 : r - 1, r == 0 ? 1 : 0);
            T.due("rules from " + r + " on: ruled(0)", r == 0 ? 1 : 6 - r, z.ruled(0));
            T.due("rules from " + r + " on: ruled(1)", r, z.ruled(1));
        }
    }

    /** "LOOK: the TURN (0 to 60) behind which these part best .. (the most alike are fewest, of several the least)". */
    private static void lookBehind60() {
        for (int when : new int[] {0, 1, 58, 59, 60, 61}) {
            LeapLane x = Told.of(TWO, "leap 1 if turn = " + when, "leap 0");
            x.note(2, 0);
            x.note(4, 0);
            if (when < 2) {
                x.note(-1, 0);
            }
            // none has child 1 behind even TURNS; of the two rules but one has child 1 from TURN when on
            boolean both = when >= 2;
            T.due("ruled(0) of when " + when, both ? 2 : 3, x.ruled(0));
            T.due("look(0) of when " + when, both ? (when <= 60 ? when : 0) : 0, x.look(0));
            T.due("look(1) of when " + when, both ? (when <= 60 ? 1 : 2) : 2, x.look(1));
        }
        // seven CHILDREN, of whom by each RULE another one leaps all
        LeapLane y = Told.of("lane 6" + ";child 5 5 1".repeat(7));
        for (int child = 1; child <= 5; child++) {
            Told.rule(y, "leap 1 if child = " + child);
        }
        Told.rule(y, "leap 0");
        T.due("seven part wholly: ruled(0)", 7, y.ruled(0));
        T.due("seven part wholly: look(0)", 0, y.look(0));
        T.due("seven part wholly: look(1)", 1, y.look(1));
        LeapLane z = Told.of("lane 6" + ";child 5 5 1".repeat(7));
        for (int i = 0; i < 6; i++) {
            Told.rule(z, "leap place");
        }
        T.due("seven are alike: look(0)", 0, z.look(0));
        T.due("seven are alike: look(1)", 7, z.look(1));
    }

    public static void main(String[] args) {
        notesAsked();
        tenOfThem();
        tenAreAsked();
        whichTurn();
        leapsAndBacksAsked();
        eachLeapAndBack();
        fromTheBegin();
        ruledAndLookAsked();
        ruledOfSix();
        lookBehind60();
        T.close();
    }
}

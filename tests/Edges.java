import java.util.ArrayList;
import java.util.Collections;
import java.util.List;
import java.util.function.Supplier;
import java.util.function.ToIntFunction;

/**
 * What the tests of boundaries share: calls behind which all is as it would be without them, asked of objects that
 * are made anew for each, and arguments that are far off.
 */
final class Edges {
    /** A call of which one argument is tried. */
    interface Ask {
        int of(LeapLane x, int argument);
    }

    private static final int[] FAR = {Integer.MIN_VALUE, Integer.MIN_VALUE + 1, -2147418112, -1000000007, -65536, -1024,
        -256, -128, -64, -33, -32, -31, -8, -7, -4, -3, -2, 3, 4, 6, 7, 8, 10, 11, 12, 20, 21, 30, 31, 32, 33, 63, 64, 65,
        128, 255, 256, 257, 1024, 32768, 65535, 65536, 65537, 16777216, 1000000007, 2147418112, Integer.MAX_VALUE - 1,
        Integer.MAX_VALUE};

    private final Told told;
    private final Supplier<LeapLane> made;
    private final List<String> untouchedAsRule;
    private final List<String> untouchedAsLane;

    /** What is made has to be the same each time. */
    Edges(Told told, Supplier<LeapLane> made) {
        this.told = told;
        this.made = made;
        untouchedAsRule = whole(made.get(), false);
        untouchedAsLane = whole(made.get(), true);
    }

    /** A LANE of three with RULES, one of them IN FORCE, ACTS, NOTES, two IMAGES and a seed; the TAPE is empty. */
    static LeapLane lived() {
        LeapLane x = Told.of("lane 2;child 5 9 3;child 8 8 2;child 4 7 1", "leap 1", "leap child");
        x.image(1);
        x.turn();
        x.stoop(0, 7);
        x.breath(1, 4);
        x.note(0, 1);
        x.note(2, 0);
        x.seed(77);
        x.force(1);
        x.image(2);
        x.front(2);
        x.leap(0, 2);
        return x;
    }

    static LeapLane lived(String tape) {
        LeapLane x = lived();
        Told.put(x, tape);
        return x;
    }

    /** Seven of whom the last one has LEAPT 996, and nobody else; by more calls than are promised. */
    static LeapLane leapt996() {
        LeapLane x = Told.of("lane 6" + ";child 1 1 30".repeat(7));
        for (int i = 0; i < 166; i++) {
            for (int child = 0; child < 6; child++) {
                x.front(child);
            }
            x.breath(6, 1);
            x.leap(6, 6);
        }
        for (int child = 0; child < 6; child++) {
            x.front(child);
        }
        return x;
    }

    /** The call answers what is due, and nothing has happened by it. */
    void stays(String call, int want, ToIntFunction<LeapLane> ask) {
        LeapLane x = made.get();
        told.due(call, want, ask.applyAsInt(x));
        told.alike("behind " + call, untouchedAsRule, whole(x, false));
        LeapLane y = made.get();
        ask.applyAsInt(y);
        told.alike("behind " + call, untouchedAsLane, whole(y, true));
    }

    /** Just outside of two bounds and far outside the call answers what is due, and nothing has happened by it. */
    void outside(String call, int least, int most, int want, Ask ask) {
        List<Integer> tried = new ArrayList<>();
        Collections.addAll(tried, least - 1, most + 1);
        for (int far : FAR) {
            tried.add(far);
        }
        for (int argument : tried) {
            if (argument < least || argument > most) {
                stays(call + " by " + argument, want, x -> ask.of(x, argument));
            }
        }
    }

    /** All that an object tells of how it is now. */
    static List<String> state(LeapLane x) {
        List<String> all = new ArrayList<>();
        for (int what = 0; what < 12; what++) {
            all.add("count(" + what + ") = " + x.count(what));
        }
        all.add("order() = " + x.order());
        for (int child = 0; child < x.count(1); child++) {
            for (int what = 0; what < 6; what++) {
                all.add("child(" + child + ", " + what + ") = " + x.child(child, what));
            }
        }
        return all;
    }

    private static void addNoted(List<String> all, LeapLane x) {
        for (int what = 0; what < 2; what++) {
            all.add("ruled(" + what + ") = " + x.ruled(what));
            all.add("look(" + what + ") = " + x.look(what));
        }
        for (int child = 0; child < x.count(1); child++) {
            all.add("leapsOf(" + child + ") = " + x.leapsOf(child));
            all.add("backsOf(" + child + ") = " + x.backsOf(child));
        }
    }

    private static void addGame(List<String> all, LeapLane x) {
        all.add("order() = " + x.order());
        all.add("count(4) = " + x.count(4));
        for (int child = 0; child < x.count(1); child++) {
            all.add("child(" + child + ", 0) = " + x.child(child, 0));
            all.add("child(" + child + ", 2) = " + x.child(child, 2));
            all.add("child(" + child + ", 5) = " + x.child(child, 5));
        }
    }

    /** All that can be got out of an object; it is used up by that. The TAPE is read as a LANE or as a RULE. */
    private static List<String> whole(LeapLane x, boolean asLane) {
        List<String> all = state(x);
        addNoted(all, x);
        int left = 20;
        for (int i = 0; i <= 20 && left >= 0; i++) {
            left = x.undo();
            all.add("undo() = " + left);
            addGame(all, x);
        }
        all.add(asLane ? "lane() = " + x.lane() : "rule() = " + x.rule());
        all.addAll(state(x));
        for (int k = 0; k < 4; k++) {
            int back = x.back(k);
            all.add("back(" + k + ") = " + back);
            if (back >= 0) {
                all.addAll(state(x));
                addNoted(all, x);
            }
        }
        x.force(x.count(2) - 1);
        all.add("turn() = " + x.turn());
        return all;
    }
}

/** Promises 26, 27 and 31 to 33: leapsOf, backsOf, note, ruled, look. */
public final class NoteTest {
    private static final Told T = new Told("NoteTest");
    private static final String TWO = "lane 1;child 5 9 3;child 5 9 3";
    /** Bits 1 to 20; 5 to 20; 1 to 9. */
    private static final int ALL = 0x1ffffe;
    private static final int FROM_FIVE = 0x1fffe0;
    private static final int TO_NINE = 0x3fe;

    private static void notes() {
        LeapLane x = Told.of(TWO);
        T.due("note(-2, 0)", -2, x.note(-2, 0));
        T.due("note(61, 0)", -2, x.note(61, 0));
        T.due("note(0, 2)", -2, x.note(0, 2));
        T.due("note(0, -1)", -2, x.note(0, -1));
        T.due("nothing happened", 0, x.count(8));
        for (int i = 1; i <= 10; i++) {
            T.due("note " + i, i, x.note(6 * i, i % 2));
        }
        T.due("an eleventh", -2, x.note(0, 0));
        T.due("notes", 10, x.count(8));
        T.due("none then", 0, x.note(-1, 7));
        T.due("notes", 0, x.count(8));
        T.due("note again", 1, x.note(60, 1));
        T.due("the same again", 2, x.note(60, 1));
        T.due("no act", 0, x.count(9));
    }

    private static void leapsAndBacks() {
        LeapLane x = Told.of(TWO);
        T.due("no notes: leapsOf(0)", ALL, x.leapsOf(0));
        T.due("no notes: backsOf(1)", ALL, x.backsOf(1));
        T.due("leapsOf(2)", -1, x.leapsOf(2));
        T.due("leapsOf(-1)", -1, x.leapsOf(-1));
        T.due("backsOf(2)", -1, x.backsOf(2));
        T.due("backsOf(-1)", -1, x.backsOf(-1));
        x.note(0, 1);
        T.due("1 leapt in TURN 0: leapsOf(1)", FROM_FIVE, x.leapsOf(1));
        T.due("1 leapt in TURN 0: leapsOf(0)", ALL, x.leapsOf(0));
        T.due("1 leapt in TURN 0: backsOf(0)", TO_NINE, x.backsOf(0));
        T.due("1 leapt in TURN 0: backsOf(1)", ALL, x.backsOf(1));
        x.note(1, 0);
        T.due("0 leapt in TURN 1: leapsOf(0)", FROM_FIVE, x.leapsOf(0));
        T.due("0 leapt in TURN 1: leapsOf(1)", FROM_FIVE, x.leapsOf(1));
        T.due("0 leapt in TURN 1: backsOf(1)", TO_NINE, x.backsOf(1));
        // what was done by hand is not what the text told
        x.turn();
        x.stoop(0, 20);
        x.stoop(1, 20);
        x.front(0);
        T.due("from the begin on: leapsOf(1)", FROM_FIVE, x.leapsOf(1));
        T.due("from the begin on: backsOf(1)", TO_NINE, x.backsOf(1));
        T.due("nothing changed", 9, x.child(1, 1));
        T.due("nothing changed", 20, x.child(1, 0));
        x.note(0, 0);
        T.due("notes that can't be: leapsOf(0)", 0, x.leapsOf(0));
        T.due("notes that can't be: backsOf(0)", 0, x.backsOf(0));
    }

    private static void byTheRuleInForce() {
        LeapLane x = Told.of(TWO, "leap 1 if leap = 7 or back = 3");
        x.note(0, 1);
        x.force(0);
        T.due("leapsOf(1)", 1 << 7, x.leapsOf(1));
        T.due("backsOf(1)", 1 << 3, x.backsOf(1));
        x.note(-1, 0);
        x.note(0, 0);
        T.due("leapsOf(1) else", ALL - (1 << 7), x.leapsOf(1));
        x.note(60, 1);
        T.due("leapsOf(1) to TURN 60", 0, x.leapsOf(1));
        x.force(-1);
        T.due("without a rule it leaps from 5 on", 0, x.leapsOf(1));
    }

    private static void rulesAreNone() {
        LeapLane x = Told.of(TWO);
        T.due("ruled(0)", 1, x.ruled(0));
        T.due("ruled(1)", -1, x.ruled(1));
        T.due("ruled(2)", -3, x.ruled(2));
        T.due("ruled(-1)", -3, x.ruled(-1));
        T.due("look(0)", 0, x.look(0));
        T.due("look(1)", 1, x.look(1));
        T.due("look(2)", -1, x.look(2));
        T.due("look(-1)", -1, x.look(-1));
        LeapLane none = Told.of("lane 1", "leap 1");
        T.due("no children: ruled(0)", 2, none.ruled(0));
        T.due("no children: ruled(1)", -1, none.ruled(1));
        T.due("no children: look(0)", -2, none.look(0));
        T.due("no children: look(1)", -2, none.look(1));
        T.due("no children: look(2)", -1, none.look(2));
    }

    private static void ruledAndLook() {
        // first behind TURN 0, 1 ..: none 1 0 1 0; rule 0: 0 0 0 0; rule 1: 1 0 1 0; rule 2: 0 1 0 1
        LeapLane x = Told.of(TWO, "leap 0", "leap 1", "leap 1 if turn > 0");
        T.due("ruled(0)", 4, x.ruled(0));
        T.due("ruled(1)", -1, x.ruled(1));
        T.due("look(0)", 0, x.look(0));
        T.due("look(1)", 2, x.look(1));
        x.note(0, 1);
        T.due("none and rule 1: ruled(0)", 2, x.ruled(0));
        T.due("none and rule 1: ruled(1)", -1, x.ruled(1));
        T.due("none and rule 1: look(0)", 0, x.look(0));
        T.due("none and rule 1: look(1)", 2, x.look(1));
        x.note(-1, 0);
        x.note(0, 0);
        T.due("rules 0 and 2: ruled(0)", 2, x.ruled(0));
        T.due("rules 0 and 2: ruled(1)", 0, x.ruled(1));
        T.due("rules 0 and 2: look(0)", 1, x.look(0));
        T.due("rules 0 and 2: look(1)", 1, x.look(1));
        x.note(1, 1);
        T.due("rule 2: ruled(0)", 1, x.ruled(0));
        T.due("rule 2: ruled(1)", 2, x.ruled(1));
        T.due("rule 2: look(0)", 0, x.look(0));
        T.due("rule 2: look(1)", 1, x.look(1));
        x.note(0, 1);
        T.due("nothing: ruled(0)", 0, x.ruled(0));
        T.due("nothing: ruled(1)", -2, x.ruled(1));
        T.due("nothing: look(0)", -2, x.look(0));
        T.due("nothing: look(1)", -2, x.look(1));
    }

    private static void asTold() {
        LeapLane x = Told.of(TWO, "leap 0", "leap 1 if turn = 60", "leap 1 if turn = 61");
        x.turn();
        x.stoop(1, 20);
        x.note(0, 1);
        T.due("from the begin on: ruled(0)", 1, x.ruled(0));
        x.note(-1, 0);
        x.note(60, 1);
        T.due("none (TURN 60 is even) and rule 1", 2, x.ruled(0));
        x.note(59, 0);
        T.due("so too", 2, x.ruled(0));
        x.note(0, 0);
        T.due("rule 1", 1, x.ruled(0));
        T.due("rule 1", 1, x.ruled(1));
        x.note(-1, 0);
        x.note(0, 0);
        T.due("rules 0 to 2", 3, x.ruled(0));
        T.due("they part behind TURN 60", 60, x.look(0));
        T.due("two are alike", 2, x.look(1));
    }

    public static void main(String[] args) {
        notes();
        leapsAndBacks();
        byTheRuleInForce();
        rulesAreNone();
        ruledAndLook();
        asTold();
        T.close();
    }
}

import java.util.Arrays;

/**
 * Leapfrog down the lane: children in a row who leap over those directly ahead of them, by rules told in a
 * language; what can be asked of it and what can be done by hand stands in the document, promise by promise.
 */
public final class LeapLane {
    public static final int NONE = -1;

    private static final int MOST_BYTES = 400;
    private static final int FED_BYTES = 20;
    private static final int MOST_CHILDREN = 7;
    private static final int MOST_RULES = 6;
    private static final int MOST_IMAGES = 4;
    private static final int MOST_UNDONE = 20;
    private static final int MOST_NOTES = 10;
    private static final int MOST_ORDERS = 5040;
    private static final int GREATEST_ORDER = 7654321;
    private static final int MOST_LEAPT = 999;
    private static final int MOST_BREATH = 60;
    private static final int MOST_BACK = 20;
    private static final int LAST_TURN = 999;
    private static final int LAST_NOTED = 60;
    private static final int TURNS_WATCHED = 200;
    private static final int TURNS_ALIKE = 60;

    /** What calls answer where what is asked for is well told, but is not there. */
    private static final int NO_SUCH = -2;
    /** Who leaps in a TURN in which nobody does. */
    private static final int NOBODY = -2;

    /** Factorials: how many orders so many children have. */
    private static final int[] FACTORIALS = {1, 1, 2, 6, 24, 120, 720, 5040};

    /** The WORDS of the languages, six letters each; the first ten are those of a SUM. */
    private static final String WORDS =
        "child place back  leap  breathover  leapt many  can   turn  if    not   and   or    lane  ";
    private static final int WORD_LETTERS = 6;
    private static final int WORDS_MANY = 15;
    private static final int WORDS_OF_SUMS = 10;
    private static final int WORD_CHILD = 0;
    private static final int WORD_PLACE = 1;
    private static final int WORD_BACK = 2;
    private static final int WORD_LEAP = 3;
    private static final int WORD_BREATH = 4;
    private static final int WORD_OVER = 5;
    private static final int WORD_LEAPT = 6;
    private static final int WORD_MANY = 7;
    private static final int WORD_CAN = 8;
    private static final int WORD_TURN = 9;
    private static final int WORD_IF = 10;
    private static final int WORD_NOT = 11;
    private static final int WORD_AND = 12;
    private static final int WORD_OR = 13;
    private static final int WORD_LANE = 14;

    /** Signs of a text: a byte that is none of these is its own sign; a WORD is WORD_SIGN and its number. */
    private static final int END_SIGN = 256;
    private static final int NUMBER_SIGN = 257;
    private static final int AT_MOST_SIGN = 258;
    private static final int AT_LEAST_SIGN = 259;
    private static final int STRANGE_WORD = 260;
    private static final int WORD_SIGN = 300;

    /** FAULTS, of one place the least. */
    private static final int CANNOT_STAND = 0;
    private static final int WRONG_NUMBER = 1;
    private static final int TOO_DEEP = 2;
    private static final int TOO_MANY_VALUES = 3;
    private static final int WRONG_CLAUSE = 4;

    /** What a RULE does, sign by sign, each behind what it works on. */
    private static final int DO_NUMBER = 0;
    private static final int DO_WORD = 1;
    private static final int DO_TIMES = 2;
    private static final int DO_PARTS = 3;
    private static final int DO_REST = 4;
    private static final int DO_PLUS = 5;
    private static final int DO_MINUS = 6;
    private static final int DO_BELOW = 7;
    private static final int DO_AT_MOST = 8;
    private static final int DO_SAME = 9;
    private static final int DO_AT_LEAST = 10;
    private static final int DO_ABOVE = 11;
    private static final int DO_NOT = 12;
    private static final int DO_AND = 13;
    private static final int DO_OR = 14;
    private static final int DO_OPEN = 15;
    private static final int DO_CLAUSE = 16;
    private static final int DO_CLAUSE_IF = 17;
    private static final int NOTHING_TO_DO = 18;
    private static final int DO_BITS = 5;
    private static final int DO_MASK = 31;

    /** How strongly each of these binds; what opens binds nothing. */
    private static final int[] STRENGTHS = {0, 0, 6, 6, 6, 5, 5, 4, 4, 4, 4, 4, 3, 2, 1, 0, 0, 0, 0};

    private final Tape tape = new Tape();
    private final LaneReader laneReader = new LaneReader();
    private final RuleReader ruleReader = new RuleReader();
    private final Rule[] rules = new Rule[MOST_RULES];
    private int rulesMany;
    private final State now = new State();
    private final State[] images = new State[MOST_IMAGES];
    private final Past past = new Past();
    private final Umpire umpire = new Umpire();
    /** A game and a lane to try on: what is asked changes these alone. */
    private final Game trial = new Game();
    private final Lane trialLane = new Lane();
    private final long[] marks = new long[TURNS_ALIKE + 1];
    private final int[] firsts = new int[(LAST_NOTED + 1) * MOST_CHILDREN];
    private final int[] gains = new int[32];
    /** Made when it is first asked for, since it is by far the largest row. */
    private Reach reach;

    public LeapLane() {
        rulesMany = 0;
        reach = null;
    }

    // ---- texts

    public int feed(int a, int b, int c, int d, int e) {
        if (tape.length + FED_BYTES > MOST_BYTES) {
            return NONE;
        }
        tape.put(a);
        tape.put(b);
        tape.put(c);
        tape.put(d);
        tape.put(e);
        return tape.length;
    }

    public int end(int n) {
        if (n < 0 || n > tape.length) {
            return NONE;
        }
        tape.length = n;
        return n;
    }

    public int lane() {
        int fault = laneReader.read(tape, trialLane);
        tape.length = 0;
        if (fault != 0) {
            return -2 - fault;
        }
        now.lane.takeFrom(trialLane);
        now.game.begin(now.lane);
        now.notes.many = 0;
        past.many = 0;
        return now.lane.many;
    }

    public int rule() {
        if (rulesMany >= MOST_RULES) {
            return NONE;
        }
        int fault = ruleReader.read(tape);
        tape.length = 0;
        if (fault != 0) {
            return -2 - fault;
        }
        rules[rulesMany] = ruleReader.made();
        rulesMany++;
        return rulesMany - 1;
    }

    public int force(int rule) {
        if (rule < NONE || rule >= rulesMany) {
            return NO_SUCH;
        }
        int was = now.inForce;
        now.inForce = rule;
        return was;
    }

    // ---- how it is

    public int child(int child, int what) {
        if (!isChild(child)) {
            return NONE;
        }
        int place = now.game.placeOf(now.lane, child);
        switch (what) {
            case 0:
                return now.game.back[child];
            case 1:
                return now.lane.leap[child];
            case 2:
                return now.game.breath[child];
            case 3:
                return place;
            case 4:
                return now.game.overFrom(now.lane, place);
            case 5:
                return now.game.leapt[child];
            default:
                return NONE;
        }
    }

    public int order() {
        return now.lane.told ? now.game.orderNumber(now.lane) : NONE;
    }

    public int count(int what) {
        switch (what) {
            case 0:
                return now.lane.spring;
            case 1:
                return now.lane.many;
            case 2:
                return rulesMany;
            case 3:
                return now.inForce;
            case 4:
                return now.game.turn;
            case 5:
                return now.game.whoCan(now.lane);
            case 6:
                return now.game.whoIsFirst(now.lane);
            case 7:
                return now.game.allLeapt(now.lane);
            case 8:
                return now.notes.many;
            case 9:
                return past.many;
            case 10:
                return now.x;
            case 11:
                return tape.length;
            default:
                return NONE;
        }
    }

    // ---- acts

    public int turn() {
        if (!now.lane.told || now.game.turn >= LAST_TURN) {
            return NONE;
        }
        past.keep(now.game);
        return umpire.playTurn(now.lane, now.game, ruleInForce());
    }

    public int leap(int child, int backs) {
        if (!isChild(child) || backs < 1) {
            return NONE;
        }
        int place = now.game.placeOf(now.lane, child);
        if (now.game.breath[child] < 1 || backs > now.game.overFrom(now.lane, place)) {
            return NONE;
        }
        past.keep(now.game);
        now.game.leapFrom(place, backs);
        return place - backs;
    }

    public int stoop(int child, int back) {
        if (!isChild(child) || back < 1 || back > MOST_BACK || back == now.game.back[child]) {
            return NONE;
        }
        past.keep(now.game);
        int was = now.game.back[child];
        now.game.back[child] = back;
        return was;
    }

    public int breath(int child, int much) {
        if (!isChild(child) || much < 1 || much > 9) {
            return NONE;
        }
        past.keep(now.game);
        now.game.giveBreath(child, much);
        return now.game.breath[child];
    }

    public int front(int child) {
        if (!isChild(child)) {
            return NONE;
        }
        int place = now.game.placeOf(now.lane, child);
        if (place == 0) {
            return NONE;
        }
        past.keep(now.game);
        now.game.moveAhead(place, place);
        return place;
    }

    public int undo() {
        if (past.many == 0) {
            return NONE;
        }
        past.giveBack(now.game);
        return past.many;
    }

    // ---- by leaps alone

    public int fewest(int order) {
        if (!isOrder(order)) {
            return NONE;
        }
        Reach all = explored();
        int at = all.find(order);
        return at < 0 ? NO_SUCH : all.depth[at];
    }

    public int step(int order, int i, int what) {
        if (!isOrder(order) || i < 0 || what < 0 || what > 1) {
            return NONE;
        }
        Reach all = explored();
        int at = all.find(order);
        if (at < 0 || i >= all.depth[at]) {
            return NO_SUCH;
        }
        int by = all.leapOf(at, i);
        return what == 0 ? by >> 3 : by & 7;
    }

    public int orders(int n) {
        if (!now.lane.told || n < 0 || n > 30) {
            return NONE;
        }
        return explored().within(n);
    }

    public int farthest(int what) {
        if (!now.lane.told || what < 0 || what > 1) {
            return NONE;
        }
        Reach all = explored();
        return what == 0 ? all.most() : all.farthestOrder();
    }

    public int first(int child) {
        return isChild(child) ? explored().soonestFirst(child) : NONE;
    }

    public int behind(int child) {
        return isChild(child) ? explored().alwaysAhead(child) : NONE;
    }

    public int sources() {
        if (!now.lane.told) {
            return NONE;
        }
        int many = 0;
        for (int place = 0; place < now.lane.many; place++) {
            many += backwardsFrom(place);
        }
        return many;
    }

    // ---- how it goes on

    public int ahead(int child, int n, int what) {
        if (!now.lane.told || n < 0 || n > 100 || what < 0 || what > 2 || (what == 1 && !isChild(child))) {
            return NONE;
        }
        trial.takeFrom(now.game);
        playOn(n);
        switch (what) {
            case 0:
                return trial.orderNumber(now.lane);
            case 1:
                return trial.breath[child];
            default:
                return trial.allLeapt(now.lane);
        }
    }

    public int leads(int child) {
        if (!isChild(child)) {
            return NONE;
        }
        trial.takeFrom(now.game);
        for (int i = 0; i < TURNS_WATCHED; i++) {
            umpire.playTurn(now.lane, trial, ruleInForce());
            if (trial.whoIsFirst(now.lane) == child) {
                return now.game.turn + i;
            }
        }
        return NO_SUCH;
    }

    public int stuck() {
        if (!now.lane.told) {
            return NONE;
        }
        trial.takeFrom(now.game);
        for (int i = 0; i < TURNS_WATCHED; i++) {
            if (umpire.playTurn(now.lane, trial, ruleInForce()) == NOBODY) {
                return now.game.turn + i;
            }
        }
        return NO_SUCH;
    }

    public int given(int n, int what) {
        if (!now.lane.told || n < 1 || n > 40 || what < 0 || what > 1) {
            return NO_SUCH;
        }
        int best = NONE;
        int most = leaptIfGiven(NONE, n);
        for (int child = 0; child < now.lane.many; child++) {
            int leapt = leaptIfGiven(child, n);
            if (leapt > most) {
                most = leapt;
                best = child;
            }
        }
        return what == 0 ? best : most;
    }

    public int rests(int one, int other, int n, int what) {
        if (!isChild(one) || !isChild(other) || one == other || n < 1 || n > 20 || what < 0 || what > 2) {
            return NONE;
        }
        gatherGains(one, other, n);
        int many = 0;
        int firstRest = NONE;
        for (int two = 0; two < 16; two++) {
            if (isRest(two)) {
                many++;
                firstRest = firstRest == NONE ? two : firstRest;
            }
        }
        if (what == 0) {
            return many;
        }
        if (firstRest == NONE) {
            return NO_SUCH;
        }
        return what == 1 ? restBack(firstRest / 4) : restBack(firstRest % 4);
    }

    public int alike(int what) {
        if (!now.lane.told || what < 0 || what > 1) {
            return NONE;
        }
        trial.takeFrom(now.game);
        for (int i = 0; i <= TURNS_ALIKE; i++) {
            marks[i] = trial.mark(now.lane);
            umpire.playTurn(now.lane, trial, ruleInForce());
        }
        for (int i = 0; i < TURNS_ALIKE; i++) {
            for (int j = i + 1; j <= TURNS_ALIKE; j++) {
                if (marks[i] == marks[j]) {
                    return what == 0 ? now.game.turn + i : j - i;
                }
            }
        }
        return NO_SUCH;
    }

    public int pence(int much, int child) {
        if (!isChild(child) || much < 0 || much > 9999) {
            return NONE;
        }
        int all = now.game.allLeapt(now.lane);
        if (all <= 0) {
            return 0;
        }
        int[] leapt = now.game.leapt;
        int lost = much * leapt[child] % all;
        int left = much;
        int sooner = 0;
        for (int c = 0; c < now.lane.many; c++) {
            left -= much * leapt[c] / all;
            int lostToo = much * leapt[c] % all;
            if (lostToo > lost || (lostToo == lost && c < child)) {
                sooner++;
            }
        }
        return much * leapt[child] / all + (sooner < left ? 1 : 0);
    }

    // ---- what was noted

    public int note(int n, int child) {
        if (n == NONE) {
            now.notes.many = 0;
            return 0;
        }
        if (n < 0 || n > LAST_NOTED || !isChild(child) || now.notes.many >= MOST_NOTES) {
            return NO_SUCH;
        }
        now.notes.add(n, child);
        return now.notes.many;
    }

    public int leapsOf(int child) {
        if (!isChild(child)) {
            return NONE;
        }
        trialLane.takeFrom(now.lane);
        int bits = 0;
        for (int leap = 1; leap <= MOST_BACK; leap++) {
            trialLane.leap[child] = leap;
            if (notesHold(trialLane, ruleInForce())) {
                bits |= 1 << leap;
            }
        }
        return bits;
    }

    public int backsOf(int child) {
        if (!isChild(child)) {
            return NONE;
        }
        trialLane.takeFrom(now.lane);
        int bits = 0;
        for (int back = 1; back <= MOST_BACK; back++) {
            trialLane.back[child] = back;
            if (notesHold(trialLane, ruleInForce())) {
                bits |= 1 << back;
            }
        }
        return bits;
    }

    public int ruled(int what) {
        if (!now.lane.told || what < 0 || what > 1) {
            return -3;
        }
        int many = 0;
        int firstRule = NO_SUCH;
        for (int r = NONE; r < rulesMany; r++) {
            if (notesHold(now.lane, ruleOf(r))) {
                firstRule = many == 0 ? r : firstRule;
                many++;
            }
        }
        return what == 0 ? many : firstRule;
    }

    public int look(int what) {
        if (!now.lane.told || what < 0 || what > 1) {
            return NONE;
        }
        Arrays.fill(firsts, 0);
        int so = 0;
        for (int r = NONE; r < rulesMany; r++) {
            if (notesHold(now.lane, ruleOf(r))) {
                countFirsts(ruleOf(r));
                so++;
            }
        }
        if (so == 0 || now.lane.many == 0) {
            return NO_SUCH;
        }
        int best = 0;
        for (int n = 1; n <= LAST_NOTED; n++) {
            if (mostAlike(n) < mostAlike(best)) {
                best = n;
            }
        }
        return what == 0 ? best : mostAlike(best);
    }

    // ---- draws

    public int seed(int x) {
        if (x < 0) {
            return NONE;
        }
        int was = now.x;
        now.x = x;
        return was;
    }

    public int stumbles(int m, int n, int p, int what) {
        if (!now.lane.told || m < 1 || m > 10 || n < 1 || n > 60 || p < 0 || p > 100 || what < 0 || what > 1) {
            return NONE;
        }
        int x = now.x;
        int leapt = 0;
        int firstTimes = 0;
        for (int i = 0; i < m; i++) {
            x = playStumbling(x, n, p);
            leapt += trial.allLeapt(now.lane);
            firstTimes += trial.whoIsFirst(now.lane) == 0 ? 1 : 0;
        }
        return what == 0 ? leapt : firstTimes;
    }

    // ---- images

    public int image(int k) {
        if (k < 0 || k >= MOST_IMAGES) {
            return NONE;
        }
        if (images[k] == null) {
            images[k] = new State();
        }
        images[k].takeFrom(now);
        return now.game.turn;
    }

    public int back(int k) {
        if (k < 0 || k >= MOST_IMAGES || images[k] == null) {
            return NONE;
        }
        now.takeFrom(images[k]);
        past.many = 0;
        return now.game.turn;
    }

    // ---- helpers of the calls

    private boolean isChild(int child) {
        return child >= 0 && child < now.lane.many;
    }

    private boolean isOrder(int order) {
        if (!now.lane.told) {
            return false;
        }
        int left = order;
        int seen = 0;
        for (int place = 0; place < now.lane.many; place++) {
            int digit = left % 10;
            left /= 10;
            if (digit < 1 || digit > now.lane.many) {
                return false;
            }
            seen |= 1 << digit;
        }
        return left == 0 && Integer.bitCount(seen) == now.lane.many;
    }

    private Rule ruleOf(int number) {
        return number >= 0 && number < rulesMany ? rules[number] : null;
    }

    private Rule ruleInForce() {
        return ruleOf(now.inForce);
    }

    private Reach explored() {
        if (reach == null) {
            reach = new Reach();
        }
        reach.explore(now.lane, now.game);
        return reach;
    }

    /** How many backs the child at a place can have leapt last: of all who are directly behind. */
    private int backwardsFrom(int place) {
        int child = now.game.order[place];
        int many = 0;
        for (int k = 1; k <= now.lane.spring && place + k < now.lane.many; k++) {
            int leapt = now.game.order[place + k];
            if (now.game.back[leapt] > now.lane.leap[child]) {
                break;
            }
            many++;
        }
        return many;
    }

    private void playOn(int turns) {
        for (int i = 0; i < turns; i++) {
            umpire.playTurn(now.lane, trial, ruleInForce());
        }
    }

    private int leaptIfGiven(int child, int turns) {
        trial.takeFrom(now.game);
        if (child != NONE) {
            trial.giveBreath(child, 5);
        }
        playOn(turns);
        return trial.allLeapt(now.lane);
    }

    private static int restBack(int choice) {
        return 5 * (choice + 1);
    }

    /** Of each two backs (4 times the first one's choice and the other's) what both have, one beside the other. */
    private void gatherGains(int one, int other, int turns) {
        for (int two = 0; two < 16; two++) {
            trial.takeFrom(now.game);
            trial.back[one] = restBack(two / 4);
            trial.back[other] = restBack(two % 4);
            playOn(turns);
            gains[2 * two] = gainOf(one);
            gains[2 * two + 1] = gainOf(other);
        }
    }

    private int gainOf(int child) {
        return 2 * (trial.leapt[child] - now.game.leapt[child]) - trial.placeOf(now.lane, child);
    }

    private boolean isRest(int two) {
        int mine = two / 4;
        int theirs = two % 4;
        for (int choice = 0; choice < 4; choice++) {
            if (gains[2 * (4 * choice + theirs)] > gains[2 * two]
                || gains[2 * (4 * mine + choice) + 1] > gains[2 * two + 1]) {
                return false;
            }
        }
        return true;
    }

    /** Whether a game from the begin on, of a lane as told, goes as all notes say. */
    private boolean notesHold(Lane lane, Rule rule) {
        int last = now.notes.lastTurn();
        trial.begin(lane);
        for (int n = 0; n <= last; n++) {
            umpire.playTurn(lane, trial, rule);
            if (!now.notes.allow(n, trial.whoIsFirst(lane))) {
                return false;
            }
        }
        return true;
    }

    private void countFirsts(Rule rule) {
        trial.begin(now.lane);
        for (int n = 0; n <= LAST_NOTED; n++) {
            umpire.playTurn(now.lane, trial, rule);
            int who = trial.whoIsFirst(now.lane);
            if (who != NONE) {
                firsts[n * MOST_CHILDREN + who]++;
            }
        }
    }

    private int mostAlike(int n) {
        int most = 0;
        for (int child = 0; child < MOST_CHILDREN; child++) {
            most = Math.max(most, firsts[n * MOST_CHILDREN + child]);
        }
        return most;
    }

    private static int nextDraw(int x) {
        return (int) ((x * 1103515245L + 12345L) & 2147483647L);
    }

    /** One game of drawn stumbles, played on the trial; answers what x is then. */
    private int playStumbling(int x, int turns, int p) {
        int drawn = x;
        trial.takeFrom(now.game);
        for (int i = 0; i < turns; i++) {
            drawn = nextDraw(drawn);
            if (drawn / 65536 % 100 < p && now.lane.many > 0) {
                drawn = nextDraw(drawn);
                trial.breath[drawn / 65536 % now.lane.many] = 0;
            }
            umpire.playTurn(now.lane, trial, ruleInForce());
        }
        return drawn;
    }

    // ---- the parts

    /** What a LANE's text told: it stays while the game goes on. */
    private static final class Lane {
        boolean told;
        int spring;
        int many;
        final int[] back = new int[MOST_CHILDREN];
        final int[] leap = new int[MOST_CHILDREN];
        final int[] breath = new int[MOST_CHILDREN];

        void takeFrom(Lane other) {
            told = other.told;
            spring = other.spring;
            many = other.many;
            System.arraycopy(other.back, 0, back, 0, MOST_CHILDREN);
            System.arraycopy(other.leap, 0, leap, 0, MOST_CHILDREN);
            System.arraycopy(other.breath, 0, breath, 0, MOST_CHILDREN);
        }
    }

    /** How a game stands: who is at which place, and what turns and acts by hand change of a child. */
    private static final class Game {
        int turn;
        final int[] order = new int[MOST_CHILDREN];
        final int[] back = new int[MOST_CHILDREN];
        final int[] breath = new int[MOST_CHILDREN];
        final int[] leapt = new int[MOST_CHILDREN];

        void begin(Lane lane) {
            turn = 0;
            for (int child = 0; child < MOST_CHILDREN; child++) {
                order[child] = child;
                back[child] = lane.back[child];
                breath[child] = lane.breath[child];
                leapt[child] = 0;
            }
        }

        void takeFrom(Game other) {
            turn = other.turn;
            System.arraycopy(other.order, 0, order, 0, MOST_CHILDREN);
            System.arraycopy(other.back, 0, back, 0, MOST_CHILDREN);
            System.arraycopy(other.breath, 0, breath, 0, MOST_CHILDREN);
            System.arraycopy(other.leapt, 0, leapt, 0, MOST_CHILDREN);
        }

        int placeOf(Lane lane, int child) {
            for (int place = 0; place < lane.many; place++) {
                if (order[place] == child) {
                    return place;
                }
            }
            return 0;
        }

        int overFrom(Lane lane, int place) {
            int high = lane.leap[order[place]];
            int over = 0;
            while (over < lane.spring && over < place && back[order[place - over - 1]] <= high) {
                over++;
            }
            return over;
        }

        boolean canFrom(Lane lane, int place) {
            int child = order[place];
            return place > 0 && breath[child] > 0 && back[order[place - 1]] <= lane.leap[child];
        }

        int whoCan(Lane lane) {
            int bits = 0;
            for (int place = 0; place < lane.many; place++) {
                bits |= canFrom(lane, place) ? 1 << order[place] : 0;
            }
            return bits;
        }

        int whoIsFirst(Lane lane) {
            return lane.many > 0 ? order[0] : NONE;
        }

        int allLeapt(Lane lane) {
            int all = 0;
            for (int child = 0; child < lane.many; child++) {
                all += leapt[child];
            }
            return all;
        }

        int orderNumber(Lane lane) {
            int number = 0;
            for (int place = 0; place < lane.many; place++) {
                number = 10 * number + order[place] + 1;
            }
            return number;
        }

        /** The order (3 bits a place) and the breath of all (6 bits a child): two that are alike have one mark. */
        long mark(Lane lane) {
            long mark = 0;
            for (int place = 0; place < lane.many; place++) {
                mark = mark << 9 | (long) order[place] << 6 | breath[place];
            }
            return mark;
        }

        void moveAhead(int place, int backs) {
            int child = order[place];
            for (int k = 0; k < backs; k++) {
                order[place - k] = order[place - k - 1];
            }
            order[place - backs] = child;
        }

        void leapFrom(int place, int backs) {
            int child = order[place];
            moveAhead(place, backs);
            leapt[child] = Math.min(MOST_LEAPT, leapt[child] + backs);
            breath[child]--;
        }

        void giveBreath(int child, int much) {
            breath[child] = Math.min(MOST_BREATH, breath[child] + much);
        }

        void restAllBut(Lane lane, int who) {
            for (int child = 0; child < lane.many; child++) {
                if (child != who && breath[child] < lane.breath[child]) {
                    breath[child]++;
                }
            }
        }
    }

    /** What was noted of who was first behind which TURN. */
    private static final class Notes {
        int many;
        final int[] turns = new int[MOST_NOTES];
        final int[] children = new int[MOST_NOTES];

        void takeFrom(Notes other) {
            many = other.many;
            System.arraycopy(other.turns, 0, turns, 0, MOST_NOTES);
            System.arraycopy(other.children, 0, children, 0, MOST_NOTES);
        }

        void add(int n, int child) {
            turns[many] = n;
            children[many] = child;
            many++;
        }

        int lastTurn() {
            int last = NONE;
            for (int i = 0; i < many; i++) {
                last = Math.max(last, turns[i]);
            }
            return last;
        }

        boolean allow(int n, int first) {
            for (int i = 0; i < many; i++) {
                if (turns[i] == n && children[i] != first) {
                    return false;
                }
            }
            return true;
        }
    }

    /** All that an IMAGE keeps. */
    private static final class State {
        final Lane lane = new Lane();
        final Game game = new Game();
        final Notes notes = new Notes();
        int inForce = NONE;
        int x;

        void takeFrom(State other) {
            lane.takeFrom(other.lane);
            game.takeFrom(other.game);
            notes.takeFrom(other.notes);
            inForce = other.inForce;
            x = other.x;
        }
    }

    /** How the game stood ahead of each of the last acts, round in a ring. */
    private static final class Past {
        final Game[] games = new Game[MOST_UNDONE];
        int next;
        int many;

        void keep(Game game) {
            if (games[next] == null) {
                games[next] = new Game();
            }
            games[next].takeFrom(game);
            next = (next + 1) % MOST_UNDONE;
            many = Math.min(MOST_UNDONE, many + 1);
        }

        void giveBack(Game game) {
            next = (next + MOST_UNDONE - 1) % MOST_UNDONE;
            many--;
            if (games[next] != null) {
                game.takeFrom(games[next]);
            }
        }
    }

    /** A RULE that was told, as what is to be done with a pile of numbers. */
    private static final class Rule {
        final int[] code;

        Rule(int[] code) {
            this.code = code;
        }

        /** The SUM of the first clause whose TEST holds, or that has none; 0 without such. */
        long worth(long[] words, long[] pile) {
            int top = 0;
            for (int i = 0; i < code.length; i++) {
                int what = code[i] & DO_MASK;
                if (what == DO_NUMBER || what == DO_WORD) {
                    if (top < pile.length) {
                        pile[top++] = valueOf(code[i], words);
                    }
                } else if (what == DO_CLAUSE || (what == DO_CLAUSE_IF && pile[1] != 0)) {
                    return pile[0];
                } else if (what == DO_CLAUSE_IF) {
                    top = 0;
                } else if (what == DO_NOT && top > 0) {
                    pile[top - 1] ^= 1;
                } else if (top > 1) {
                    top--;
                    pile[top - 1] = worked(what, pile[top - 1], pile[top]);
                }
            }
            return 0;
        }

        private static long valueOf(int told, long[] words) {
            int value = told >> DO_BITS;
            if ((told & DO_MASK) == DO_NUMBER) {
                return value;
            }
            return value >= 0 && value < words.length ? words[value] : 0;
        }

        private static long worked(int what, long a, long b) {
            switch (what) {
                case DO_TIMES:
                    return a * b;
                case DO_PARTS:
                    return b == 0 ? 0 : a / b;
                case DO_REST:
                    return b == 0 ? 0 : a % b;
                case DO_PLUS:
                    return a + b;
                case DO_MINUS:
                    return a - b;
                case DO_AND:
                    return a & b;
                case DO_OR:
                    return a | b;
                case DO_BELOW:
                    return a < b ? 1 : 0;
                case DO_AT_MOST:
                    return a <= b ? 1 : 0;
                case DO_SAME:
                    return a == b ? 1 : 0;
                case DO_AT_LEAST:
                    return a >= b ? 1 : 0;
                default:
                    return a > b ? 1 : 0;
            }
        }
    }

    /** Plays TURNS, of the game that is or of one that is tried. */
    private static final class Umpire {
        private final long[] words = new long[WORDS_OF_SUMS];
        /** A SUM, two at each of 11 depths of a TEST that wait, a SUM that waits and three within one are 28. */
        private final long[] pile = new long[40];

        /** Answers who leaps. */
        int playTurn(Lane lane, Game game, Rule rule) {
            int place = rule == null ? farthestBack(lane, game) : greatest(lane, game, rule);
            int who = NOBODY;
            if (place >= 0) {
                who = game.order[place];
                game.leapFrom(place, game.overFrom(lane, place));
            }
            game.restAllBut(lane, who);
            game.turn++;
            return who;
        }

        private static int farthestBack(Lane lane, Game game) {
            for (int place = lane.many - 1; place > 0; place--) {
                if (game.canFrom(lane, place)) {
                    return place;
                }
            }
            return NONE;
        }

        private int greatest(Lane lane, Game game, Rule rule) {
            int best = NONE;
            long most = 0;
            int bits = game.whoCan(lane);
            for (int place = 1; place < lane.many; place++) {
                int child = game.order[place];
                if ((bits >> child & 1) == 0) {
                    continue;
                }
                tellWords(lane, game, place);
                words[WORD_CAN] = Integer.bitCount(bits);
                long worth = rule.worth(words, pile);
                if (worth > most || (best != NONE && worth == most && child < game.order[best])) {
                    most = worth;
                    best = place;
                }
            }
            return best;
        }

        private void tellWords(Lane lane, Game game, int place) {
            int child = game.order[place];
            words[WORD_CHILD] = child;
            words[WORD_PLACE] = place;
            words[WORD_BACK] = game.back[child];
            words[WORD_LEAP] = lane.leap[child];
            words[WORD_BREATH] = game.breath[child];
            words[WORD_OVER] = game.overFrom(lane, place);
            words[WORD_LEAPT] = game.leapt[child];
            words[WORD_MANY] = lane.many;
            words[WORD_TURN] = game.turn;
        }
    }

    /** The bytes that were fed, and what a reader of them came to. */
    private static final class Tape {
        final byte[] bytes = new byte[MOST_BYTES];
        int length;
        /** Behind the sign that was read last. */
        int at;
        /** The sign that was read last, and where its first byte is. */
        int sign;
        int place;
        /** What the NUMBER read last is; NONE, if it has more digits than it may. */
        int number;
        /** What is wrong; 0: nothing so far. */
        int fault;

        void put(int four) {
            for (int shift = 24; shift >= 0; shift -= 8) {
                bytes[length++] = (byte) (four >> shift);
            }
        }

        void rewind() {
            at = 0;
            fault = 0;
        }

        void readSign() {
            while (at < length && bytes[at] == ' ') {
                at++;
            }
            place = at;
            if (at >= length) {
                sign = END_SIGN;
            } else if (isLetter(bytes[at])) {
                readWord();
            } else if (isDigit(bytes[at])) {
                readNumber();
            } else {
                readMark();
            }
        }

        private static boolean isLetter(byte b) {
            return b >= 'a' && b <= 'z';
        }

        private static boolean isDigit(byte b) {
            return b >= '0' && b <= '9';
        }

        private void readWord() {
            while (at < length && isLetter(bytes[at])) {
                at++;
            }
            sign = STRANGE_WORD;
            for (int word = 0; word < WORDS_MANY && at - place <= WORD_LETTERS; word++) {
                // a WORD that is shorter has blanks behind it in WORDS
                int alike = 0;
                for (int i = 0; i < WORD_LETTERS; i++) {
                    int letter = place + i < at ? bytes[place + i] : ' ';
                    alike += WORDS.charAt(word * WORD_LETTERS + i) == letter ? 1 : 0;
                }
                if (alike == WORD_LETTERS) {
                    sign = WORD_SIGN + word;
                }
            }
        }

        private void readNumber() {
            sign = NUMBER_SIGN;
            number = 0;
            while (at < length && isDigit(bytes[at])) {
                if (at - place < 5) {
                    number = 10 * number + bytes[at] - '0';
                }
                at++;
            }
            if (at - place > 5) {
                number = NONE;
            }
        }

        private void readMark() {
            sign = bytes[at] & 255;
            at++;
            if ((sign == '<' || sign == '>') && at < length && bytes[at] == '=') {
                sign = sign == '<' ? AT_MOST_SIGN : AT_LEAST_SIGN;
                at++;
            }
        }

        /** A FAULT at the sign that was read last. */
        void fail(int kind) {
            fault = 1 + 8 * place + kind;
        }
    }

    /** Reads the text of a LANE. */
    private static final class LaneReader {
        private static final int MOST_CLAUSES = 40;

        private Tape tape;
        private Lane lane;

        /** Answers the FAULT, 0 without one: then the lane is as told. */
        int read(Tape text, Lane into) {
            tape = text;
            lane = into;
            lane.told = true;
            lane.many = 0;
            tape.rewind();
            boolean goesOn = true;
            for (int clause = 0; goesOn && clause <= MOST_CLAUSES; clause++) {
                readClause(clause);
                goesOn = tape.fault == 0 && readWhetherMore();
            }
            return tape.fault;
        }

        private void readClause(int clause) {
            tape.readSign();
            boolean isLane = tape.sign == WORD_SIGN + WORD_LANE;
            if (!isLane && tape.sign != WORD_SIGN + WORD_CHILD) {
                tape.fail(CANNOT_STAND);
            } else if (clause >= MOST_CLAUSES || isLane != (clause == 0) || lane.many >= MOST_CHILDREN) {
                tape.fail(WRONG_CLAUSE);
            } else if (isLane) {
                lane.spring = readNumber(1, 6);
            } else {
                lane.back[lane.many] = readNumber(1, 20);
                lane.leap[lane.many] = readNumber(1, 20);
                lane.breath[lane.many] = readNumber(0, 30);
                lane.many++;
            }
        }

        private int readNumber(int least, int most) {
            if (tape.fault != 0) {
                return least;
            }
            tape.readSign();
            if (tape.sign != NUMBER_SIGN) {
                tape.fail(CANNOT_STAND);
                return least;
            }
            if (tape.number < least || tape.number > most) {
                tape.fail(WRONG_NUMBER);
                return least;
            }
            return tape.number;
        }

        private boolean readWhetherMore() {
            tape.readSign();
            if (tape.sign != ';' && tape.sign != END_SIGN) {
                tape.fail(CANNOT_STAND);
            }
            return tape.sign == ';';
        }
    }

    /**
     * Reads the text of a RULE without recursion: what can stand next is told by a state; signs that wait for
     * what they work on lie on a pile, and come behind it into the code, the stronger ones first.
     */
    private static final class RuleReader {
        private static final int MOST_CLAUSES = 12;
        private static final int MOST_VALUES = 60;
        private static final int DEEPEST = 10;

        /** States: what comes next. */
        private static final int CLAUSE_NEXT = 0;
        private static final int VALUE_NEXT = 1;
        private static final int FACT_NEXT = 2;
        private static final int BEHIND_VALUE = 3;
        private static final int BEHIND_FACT = 4;
        private static final int ENDED = 5;

        /** Which SUM it is: a clause's own, or that ahead of or behind the SIGN of a FACT. */
        private static final int OWN_SUM = 0;
        private static final int LEFT_SUM = 1;
        private static final int RIGHT_SUM = 2;

        private Tape tape;
        private int state;
        private int sum;
        private int clauses;
        private int values;
        private boolean tested;
        /** Each sign of a text does one thing at most, but a clause, whose word does none itself. */
        private final int[] code = new int[MOST_BYTES];
        private int length;
        /** Three at each of 11 depths and two within a SUM are 35. */
        private final int[] pile = new int[48];
        private int top;
        private int depth;
        private int open;

        /** Answers the FAULT, 0 without one. */
        int read(Tape text) {
            tape = text;
            clauses = 0;
            values = 0;
            length = 0;
            top = 0;
            depth = 0;
            open = 0;
            state = CLAUSE_NEXT;
            tape.rewind();
            for (int i = 0; i <= MOST_BYTES && tape.fault == 0 && state != ENDED; i++) {
                tape.readSign();
                switch (state) {
                    case CLAUSE_NEXT:
                        takeClause();
                        break;
                    case VALUE_NEXT:
                        takeValue();
                        break;
                    case FACT_NEXT:
                        takeFact();
                        break;
                    case BEHIND_VALUE:
                        takeBehindValue();
                        break;
                    default:
                        takeBehindFact();
                        break;
                }
            }
            return tape.fault;
        }

        Rule made() {
            return new Rule(Arrays.copyOf(code, length));
        }

        private boolean isWord(int word) {
            return tape.sign == WORD_SIGN + word;
        }

        private void takeClause() {
            if (!isWord(WORD_LEAP)) {
                tape.fail(CANNOT_STAND);
            } else if (clauses >= MOST_CLAUSES) {
                tape.fail(WRONG_CLAUSE);
            } else {
                clauses++;
                tested = false;
                sum = OWN_SUM;
                state = VALUE_NEXT;
            }
        }

        private void takeValue() {
            boolean isNumber = tape.sign == NUMBER_SIGN;
            int word = tape.sign - WORD_SIGN;
            if (!isNumber && (word < 0 || word >= WORDS_OF_SUMS)) {
                tape.fail(CANNOT_STAND);
            } else if (isNumber && tape.number == NONE) {
                tape.fail(WRONG_NUMBER);
            } else if (values >= MOST_VALUES) {
                tape.fail(TOO_MANY_VALUES);
            } else {
                values++;
                write(isNumber ? DO_NUMBER | tape.number << DO_BITS : DO_WORD | word << DO_BITS);
                state = BEHIND_VALUE;
            }
        }

        private void takeFact() {
            boolean opens = tape.sign == '[';
            if (!opens && !isWord(WORD_NOT)) {
                sum = LEFT_SUM;
                takeValue();
            } else if (depth >= DEEPEST) {
                tape.fail(TOO_DEEP);
            } else {
                depth++;
                open += opens ? 1 : 0;
                lay(opens ? DO_OPEN : DO_NOT);
            }
        }

        private void takeBehindValue() {
            int what = workOf(tape.sign);
            if (what != NOTHING_TO_DO) {
                layBehindStronger(what);
                state = VALUE_NEXT;
            } else if (sum == LEFT_SUM) {
                takeComparison();
            } else if (sum == RIGHT_SUM) {
                takeBehindFact();
            } else if (isWord(WORD_IF)) {
                writeWaiting();
                tested = true;
                state = FACT_NEXT;
            } else {
                takeEndOfClause();
            }
        }

        private void takeComparison() {
            int what = comparisonOf(tape.sign);
            if (what == NOTHING_TO_DO) {
                tape.fail(CANNOT_STAND);
            } else if (values >= MOST_VALUES) {
                tape.fail(TOO_MANY_VALUES);
            } else {
                values++;
                layBehindStronger(what);
                sum = RIGHT_SUM;
                state = VALUE_NEXT;
            }
        }

        private void takeBehindFact() {
            if (isWord(WORD_AND) || isWord(WORD_OR)) {
                layBehindStronger(isWord(WORD_AND) ? DO_AND : DO_OR);
                state = FACT_NEXT;
            } else if (open == 0) {
                takeEndOfClause();
            } else if (tape.sign == ']') {
                writeWaiting();
                takeFromPile();
                state = BEHIND_FACT;
            } else {
                tape.fail(CANNOT_STAND);
            }
        }

        private void takeEndOfClause() {
            if (tape.sign != ';' && tape.sign != END_SIGN) {
                tape.fail(CANNOT_STAND);
                return;
            }
            writeWaiting();
            write(tested ? DO_CLAUSE_IF : DO_CLAUSE);
            state = tape.sign == ';' ? CLAUSE_NEXT : ENDED;
        }

        private void write(int what) {
            if (length < code.length) {
                code[length++] = what;
            }
        }

        private void lay(int what) {
            if (top < pile.length) {
                pile[top++] = what;
            }
        }

        private int takeFromPile() {
            if (top == 0) {
                return NOTHING_TO_DO;
            }
            top--;
            int what = pile[top];
            if (what == DO_NOT || what == DO_OPEN) {
                depth--;
                open -= what == DO_OPEN ? 1 : 0;
            }
            return what;
        }

        private void layBehindStronger(int what) {
            for (int left = top; left > 0 && STRENGTHS[pile[left - 1]] >= STRENGTHS[what]; left--) {
                write(takeFromPile());
            }
            lay(what);
        }

        private void writeWaiting() {
            for (int left = top; left > 0 && pile[left - 1] != DO_OPEN; left--) {
                write(takeFromPile());
            }
        }

        private static int workOf(int sign) {
            switch (sign) {
                case '*':
                    return DO_TIMES;
                case '/':
                    return DO_PARTS;
                case '%':
                    return DO_REST;
                case '+':
                    return DO_PLUS;
                case '-':
                    return DO_MINUS;
                default:
                    return NOTHING_TO_DO;
            }
        }

        private static int comparisonOf(int sign) {
            switch (sign) {
                case '<':
                    return DO_BELOW;
                case AT_MOST_SIGN:
                    return DO_AT_MOST;
                case '=':
                    return DO_SAME;
                case AT_LEAST_SIGN:
                    return DO_AT_LEAST;
                case '>':
                    return DO_ABOVE;
                default:
                    return NOTHING_TO_DO;
            }
        }
    }

    /**
     * All orders that can be reached by leaps alone, the fewest leaps first. Those of as many leaps stand by their
     * first row of leaps, since each order is left by leaps in their order: so the leap that found an order
     * is the last one of the first row that leads to it.
     */
    private static final class Reach {
        private int many = NONE;
        private int spring;
        /** Of each child those whom they can leap, as bits. */
        private final int[] leapable = new int[MOST_CHILDREN];
        private int found;
        /** Of each order's rank 1 and where it was found; 0: it was not. */
        private final int[] whereOf = new int[MOST_ORDERS];
        /** What was found: who is at which place (3 bits each, the first one lowest). */
        private final int[] rows = new int[MOST_ORDERS];
        /** What was found: from where (times 64), and the leap: who (times 8), how many backs. */
        private final int[] from = new int[MOST_ORDERS];
        final int[] depth = new int[MOST_ORDERS];
        /** Of the order that is left: who is at a place, where a child is, how many lesser ones are behind a place. */
        private final int[] order = new int[MOST_CHILDREN];
        private final int[] places = new int[MOST_CHILDREN];
        private final int[] lesser = new int[MOST_CHILDREN];

        void explore(Lane lane, Game game) {
            if (isAsExplored(lane, game)) {
                return;
            }
            many = lane.many;
            spring = lane.spring;
            found = 0;
            Arrays.fill(whereOf, 0);
            int start = 0;
            for (int place = 0; place < many; place++) {
                int child = game.order[place];
                order[place] = child;
                start |= child << 3 * place;
                leapable[child] = leapableBy(lane, game, child);
            }
            add(rank(), start, 0, 0);
            for (int i = 0; i < found && i < MOST_ORDERS; i++) {
                leaveFrom(i);
            }
        }

        private boolean isAsExplored(Lane lane, Game game) {
            if (lane.many != many || lane.spring != spring) {
                return false;
            }
            for (int place = 0; place < many; place++) {
                int child = game.order[place];
                if ((rows[0] >> 3 * place & 7) != child || leapable[child] != leapableBy(lane, game, child)) {
                    return false;
                }
            }
            return true;
        }

        private static int leapableBy(Lane lane, Game game, int child) {
            int bits = 0;
            for (int other = 0; other < lane.many; other++) {
                bits |= game.back[other] <= lane.leap[child] ? 1 << other : 0;
            }
            return bits;
        }

        /** How many orders a step of one at a place is worth. */
        private int weight(int place) {
            return FACTORIALS[many - 1 - place];
        }

        /** The rank of the order that is left, of all by their numbers; tells what is lesser on the way. */
        private int rank() {
            int rank = 0;
            int gone = 0;
            for (int place = 0; place < many; place++) {
                int child = order[place];
                lesser[place] = child - Integer.bitCount(gone & (1 << child) - 1);
                gone |= 1 << child;
                rank += lesser[place] * weight(place);
            }
            return rank;
        }

        private void add(int rank, int row, int parent, int by) {
            if (found >= MOST_ORDERS || rank < 0 || rank >= MOST_ORDERS || whereOf[rank] != 0) {
                return;
            }
            rows[found] = row;
            from[found] = parent << 6 | by;
            depth[found] = found == 0 ? 0 : depth[parent] + 1;
            found++;
            whereOf[rank] = found;
        }

        private void leaveFrom(int at) {
            for (int place = 0; place < many; place++) {
                int child = rows[at] >> 3 * place & 7;
                order[place] = child;
                places[child] = place;
            }
            int rank = rank();
            for (int child = 0; child < many; child++) {
                leapFrom(at, rank, places[child]);
            }
        }

        /** Each back that is leapt changes two places of the row and of the rank alone. */
        private void leapFrom(int at, int leftRank, int place) {
            int child = order[place];
            int row = rows[at];
            int rank = leftRank;
            int mine = lesser[place];
            for (int k = 1; k <= spring && k <= place; k++) {
                int to = place - k;
                int other = order[to];
                if ((leapable[child] >> other & 1) == 0) {
                    return;
                }
                int mineThen = other < child ? mine + 1 : mine;
                int theirsThen = other < child ? lesser[to] : lesser[to] - 1;
                rank += (mineThen - lesser[to]) * weight(to) + (theirsThen - mine) * weight(to + 1);
                mine = mineThen;
                row ^= (child ^ other) * 9 << 3 * to;
                add(rank, row, at, child << 3 | k);
            }
        }

        /** Where an order, told as a number, was found; NONE: it was not. */
        int find(int number) {
            int left = number;
            for (int place = many - 1; place >= 0; place--) {
                order[place] = left % 10 - 1;
                left /= 10;
            }
            int rank = rank();
            return rank >= 0 && rank < MOST_ORDERS ? whereOf[rank] - 1 : NONE;
        }

        /** The i-th leap of the first row of leaps that leads to what was found: who times 8, how many backs. */
        int leapOf(int at, int i) {
            int last = at;
            for (int leaps = depth[at]; leaps > i + 1; leaps--) {
                last = from[last] >> 6;
            }
            return from[last] & 63;
        }

        int within(int leaps) {
            int within = 0;
            for (int i = 0; i < found; i++) {
                within += depth[i] <= leaps ? 1 : 0;
            }
            return within;
        }

        int most() {
            return found > 0 ? depth[found - 1] : 0;
        }

        int farthestOrder() {
            int least = GREATEST_ORDER;
            for (int i = 0; i < found; i++) {
                if (depth[i] == most()) {
                    least = Math.min(least, numberOf(rows[i]));
                }
            }
            return least;
        }

        private int numberOf(int row) {
            int number = 0;
            for (int place = 0; place < many; place++) {
                number = 10 * number + (row >> 3 * place & 7) + 1;
            }
            return number;
        }

        int soonestFirst(int child) {
            for (int i = 0; i < found; i++) {
                if ((rows[i] & 7) == child) {
                    return depth[i];
                }
            }
            return NO_SUCH;
        }

        /** Those who are ahead of a child in all orders found, as bits. */
        int alwaysAhead(int child) {
            int bits = (1 << many) - 1;
            for (int i = 0; i < found; i++) {
                bits &= aheadIn(rows[i], child);
            }
            return bits;
        }

        private int aheadIn(int row, int child) {
            int bits = 0;
            for (int place = 0; place < many; place++) {
                int other = row >> 3 * place & 7;
                if (other == child) {
                    return bits;
                }
                bits |= 1 << other;
            }
            return bits;
        }
    }
}

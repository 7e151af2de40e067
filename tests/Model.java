import java.util.ArrayDeque;
import java.util.ArrayList;
import java.util.Arrays;
import java.util.HashMap;
import java.util.HashSet;
import java.util.List;
import java.util.Map;
import java.util.Set;
import java.util.TreeSet;
import java.util.function.Function;
import java.util.function.ToLongFunction;

/**
 * The document once more, as naively as can be, with the whole Java library: ModelTest compares its answers with
 * those of LeapLane. It shares no code and, where there is a choice, no way of working with it.
 */
final class Model {
    static final int NONE = -1;

    static final class Fault extends RuntimeException {
        final int number;

        Fault(int place, int kind) {
            super(null, null, false, false);
            number = 1 + 8 * place + kind;
        }
    }

    record Kid(int back, int leap, int breath) { }

    record Clause(ToLongFunction<Map<String, Long>> sum, Function<Map<String, Long>, Boolean> test) { }

    record Leap(int who, int backs) { }

    record Note(int turn, int child) { }

    /** Everything that changes; copied whole. */
    static final class World {
        int spring = 0;
        List<Kid> kids = null;
        List<Integer> order = new ArrayList<>();
        int[] back = new int[0];
        int[] breath = new int[0];
        int[] leapt = new int[0];
        int turn = 0;
        List<Note> notes = new ArrayList<>();
        int force = NONE;
        long x = 0;

        World copy() {
            World w = new World();
            w.spring = spring;
            w.kids = kids;
            w.order = new ArrayList<>(order);
            w.back = back.clone();
            w.breath = breath.clone();
            w.leapt = leapt.clone();
            w.turn = turn;
            w.notes = new ArrayList<>(notes);
            w.force = force;
            w.x = x;
            return w;
        }

        void begin() {
            int n = kids.size();
            order = new ArrayList<>();
            back = new int[n];
            breath = new int[n];
            leapt = new int[n];
            turn = 0;
            for (int i = 0; i < n; i++) {
                order.add(i);
                back[i] = kids.get(i).back();
                breath[i] = kids.get(i).breath();
            }
        }

        int many() {
            return kids == null ? 0 : kids.size();
        }

        boolean canLeap(int child, int k) {
            int p = order.indexOf(child);
            if (k < 1 || k > spring || k > p) {
                return false;
            }
            for (int i = p - k; i < p; i++) {
                if (back[order.get(i)] > kids.get(child).leap()) {
                    return false;
                }
            }
            return true;
        }

        int over(int child) {
            int best = 0;
            for (int k = 1; k <= 6; k++) {
                if (canLeap(child, k)) {
                    best = k;
                }
            }
            return best;
        }

        boolean can(int child) {
            return canLeap(child, 1) && breath[child] > 0;
        }

        List<Integer> able() {
            List<Integer> list = new ArrayList<>();
            for (int c = 0; c < many(); c++) {
                if (can(c)) {
                    list.add(c);
                }
            }
            return list;
        }

        void leap(int child, int k) {
            int p = order.indexOf(child);
            order.remove(p);
            order.add(p - k, child);
            leapt[child] = Math.min(999, leapt[child] + k);
            breath[child] -= 1;
        }

        int all() {
            return Arrays.stream(leapt).sum();
        }

        int first() {
            return order.isEmpty() ? NONE : order.get(0);
        }
    }

    private byte[] tape = new byte[0];
    private final List<List<Clause>> rules = new ArrayList<>();
    private World now = new World();
    private final ArrayList<World> past = new ArrayList<>();
    private final World[] images = new World[4];

    // ---- reading

    private int at;
    private int nodes;
    private int clauses;

    private void blanks() {
        while (at < tape.length && tape[at] == 32) {
            at++;
        }
    }

    private String peek() {
        blanks();
        if (at >= tape.length) {
            return "";
        }
        int to = at + 1;
        char c = (char) (tape[at] & 255);
        if (c >= 'a' && c <= 'z') {
            while (to < tape.length && tape[to] >= 'a' && tape[to] <= 'z') {
                to++;
            }
        } else if (c >= '0' && c <= '9') {
            while (to < tape.length && tape[to] >= '0' && tape[to] <= '9') {
                to++;
            }
        } else if ((c == '<' || c == '>') && to < tape.length && tape[to] == '=') {
            to++;
        }
        StringBuilder s = new StringBuilder();
        for (int i = at; i < to; i++) {
            s.append((char) (tape[i] & 255));
        }
        return s.toString();
    }

    private String take() {
        String s = peek();
        at += s.length();
        return s;
    }

    private void need(String word) {
        if (!peek().equals(word)) {
            throw new Fault(at, 0);
        }
        take();
    }

    private int number(int least, int most) {
        String s = peek();
        if (s.isEmpty() || !Character.isDigit(s.charAt(0)) || s.charAt(0) > '9') {
            throw new Fault(at, 0);
        }
        if (s.length() > 5 || Integer.parseInt(s) < least || Integer.parseInt(s) > most) {
            throw new Fault(at, 1);
        }
        return Integer.parseInt(take());
    }

    private World readLane() {
        World w = new World();
        w.kids = new ArrayList<>();
        at = 0;
        int n = 0;
        do {
            if (n > 0) {
                need(";");
            }
            String word = peek();
            if (!word.equals("lane") && !word.equals("child")) {
                throw new Fault(at, 0);
            }
            if (n == 40 || word.equals("lane") && n > 0 || word.equals("child") && n == 0 || w.kids.size() == 7) {
                throw new Fault(at, 4);
            }
            take();
            if (word.equals("lane")) {
                w.spring = number(1, 6);
            } else {
                int back = number(1, 20);
                int leap = number(1, 20);
                w.kids.add(new Kid(back, leap, number(0, 30)));
            }
            n++;
        } while (!peek().isEmpty());
        w.begin();
        return w;
    }

    private List<Clause> readRule() {
        at = 0;
        nodes = 0;
        clauses = 0;
        List<Clause> list = new ArrayList<>();
        list.add(clause());
        while (!peek().isEmpty()) {
            need(";");
            list.add(clause());
        }
        return list;
    }

    private Clause clause() {
        if (peek().equals("leap") && ++clauses > 12) {
            throw new Fault(at, 4);
        }
        need("leap");
        ToLongFunction<Map<String, Long>> sum = sum();
        if (!peek().equals("if")) {
            return new Clause(sum, w -> true);
        }
        take();
        return new Clause(sum, test(0));
    }

    private Function<Map<String, Long>, Boolean> test(int depth) {
        Function<Map<String, Long>, Boolean> left = part(depth);
        while (peek().equals("or")) {
            take();
            Function<Map<String, Long>, Boolean> a = left;
            Function<Map<String, Long>, Boolean> b = part(depth);
            left = w -> a.apply(w) || b.apply(w);
        }
        return left;
    }

    private Function<Map<String, Long>, Boolean> part(int depth) {
        Function<Map<String, Long>, Boolean> left = fact(depth);
        while (peek().equals("and")) {
            take();
            Function<Map<String, Long>, Boolean> a = left;
            Function<Map<String, Long>, Boolean> b = fact(depth);
            left = w -> a.apply(w) && b.apply(w);
        }
        return left;
    }

    private Function<Map<String, Long>, Boolean> fact(int depth) {
        String s = peek();
        if (s.equals("not") || s.equals("[")) {
            if (depth == 10) {
                throw new Fault(at, 2);
            }
            take();
            if (s.equals("not")) {
                Function<Map<String, Long>, Boolean> a = fact(depth + 1);
                return w -> !a.apply(w);
            }
            Function<Map<String, Long>, Boolean> inner = test(depth + 1);
            need("]");
            return inner;
        }
        ToLongFunction<Map<String, Long>> a = sum();
        String sign = peek();
        if (!List.of("<", "<=", "=", ">=", ">").contains(sign)) {
            throw new Fault(at, 0);
        }
        if (++nodes > 60) {
            throw new Fault(at, 3);
        }
        take();
        ToLongFunction<Map<String, Long>> b = sum();
        return switch (sign) {
            case "<" -> w -> a.applyAsLong(w) < b.applyAsLong(w);
            case "<=" -> w -> a.applyAsLong(w) <= b.applyAsLong(w);
            case "=" -> w -> a.applyAsLong(w) == b.applyAsLong(w);
            case ">=" -> w -> a.applyAsLong(w) >= b.applyAsLong(w);
            default -> w -> a.applyAsLong(w) > b.applyAsLong(w);
        };
    }

    private ToLongFunction<Map<String, Long>> sum() {
        ToLongFunction<Map<String, Long>> left = term();
        while (peek().equals("+") || peek().equals("-")) {
            boolean plus = take().equals("+");
            ToLongFunction<Map<String, Long>> a = left;
            ToLongFunction<Map<String, Long>> b = term();
            left = plus ? w -> a.applyAsLong(w) + b.applyAsLong(w) : w -> a.applyAsLong(w) - b.applyAsLong(w);
        }
        return left;
    }

    private ToLongFunction<Map<String, Long>> term() {
        ToLongFunction<Map<String, Long>> left = value();
        while (List.of("*", "/", "%").contains(peek())) {
            String op = take();
            ToLongFunction<Map<String, Long>> a = left;
            ToLongFunction<Map<String, Long>> b = value();
            left = w -> {
                long p = a.applyAsLong(w);
                long q = b.applyAsLong(w);
                if (op.equals("*")) {
                    return p * q;
                }
                return q == 0 ? 0 : op.equals("/") ? p / q : p % q;
            };
        }
        return left;
    }

    private ToLongFunction<Map<String, Long>> value() {
        String s = peek();
        boolean digit = !s.isEmpty() && s.charAt(0) >= '0' && s.charAt(0) <= '9';
        boolean word = List.of("child", "place", "back", "leap", "breath", "over", "leapt", "many", "can", "turn")
            .contains(s);
        if (!digit && !word) {
            throw new Fault(at, 0);
        }
        if (digit && s.length() > 5) {
            throw new Fault(at, 1);
        }
        if (++nodes > 60) {
            throw new Fault(at, 3);
        }
        take();
        if (digit) {
            long n = Long.parseLong(s);
            return w -> n;
        }
        return w -> w.get(s);
    }

    // ---- turns

    private Map<String, Long> words(World w, int c) {
        Map<String, Long> m = new HashMap<>();
        m.put("child", (long) c);
        m.put("place", (long) w.order.indexOf(c));
        m.put("back", (long) w.back[c]);
        m.put("leap", (long) w.kids.get(c).leap());
        m.put("breath", (long) w.breath[c]);
        m.put("over", (long) w.over(c));
        m.put("leapt", (long) w.leapt[c]);
        m.put("many", (long) w.many());
        m.put("can", (long) w.able().size());
        m.put("turn", (long) w.turn);
        return m;
    }

    private long worth(World w, List<Clause> rule, int c) {
        Map<String, Long> words = words(w, c);
        for (Clause clause : rule) {
            if (clause.test().apply(words)) {
                return clause.sum().applyAsLong(words);
            }
        }
        return 0;
    }

    /** Who leaps; -2: nobody. */
    private int play(World w, int force) {
        List<Integer> able = w.able();
        int who = -2;
        if (force == NONE) {
            for (int c : w.order) {
                who = able.contains(c) ? c : who;
            }
        } else {
            long most = 0;
            for (int c : able) {
                long worth = worth(w, rules.get(force), c);
                if (worth > most) {
                    most = worth;
                    who = c;
                }
            }
        }
        if (who >= 0) {
            w.leap(who, w.over(who));
        }
        for (int c = 0; c < w.many(); c++) {
            if (c != who && w.breath[c] < w.kids.get(c).breath()) {
                w.breath[c]++;
            }
        }
        w.turn++;
        return who;
    }

    private World after(World start, int n) {
        World w = start.copy();
        for (int i = 0; i < n; i++) {
            play(w, w.force);
        }
        return w;
    }

    // ---- orders by leaps alone

    private static int number(List<Integer> order) {
        String s = "0";
        for (int c : order) {
            s += c + 1;
        }
        return Integer.parseInt(s);
    }

    private List<Integer> orderOf(int n) {
        if (now.kids == null || n < 0) {
            return null;
        }
        List<Integer> order = new ArrayList<>();
        if (n > 0) {
            for (char c : Integer.toString(n).toCharArray()) {
                order.add(c - '1');
            }
        }
        Set<Integer> all = new HashSet<>();
        for (int c = 0; c < now.many(); c++) {
            all.add(c);
        }
        return order.size() == now.many() && new HashSet<>(order).equals(all) ? order : null;
    }

    private List<Integer> leaped(List<Integer> order, Leap leap) {
        List<Integer> next = new ArrayList<>(order);
        int p = next.indexOf(leap.who());
        next.remove(p);
        next.add(p - leap.backs(), leap.who());
        return next;
    }

    private List<Leap> leaps(List<Integer> order) {
        List<Leap> list = new ArrayList<>();
        World w = now.copy();
        w.order = order;
        for (int c = 0; c < w.many(); c++) {
            for (int k = 1; k <= 6; k++) {
                if (w.canLeap(c, k)) {
                    list.add(new Leap(c, k));
                }
            }
        }
        return list;
    }

    private Map<List<Integer>, Integer> depths(List<Integer> from) {
        Map<List<Integer>, Integer> depths = new HashMap<>();
        ArrayDeque<List<Integer>> queue = new ArrayDeque<>();
        depths.put(from, 0);
        queue.add(from);
        while (!queue.isEmpty()) {
            List<Integer> order = queue.poll();
            for (Leap leap : leaps(order)) {
                List<Integer> next = leaped(order, leap);
                if (depths.putIfAbsent(next, depths.get(order) + 1) == null) {
                    queue.add(next);
                }
            }
        }
        return depths;
    }

    /** The first of all shortest rows, found by going back from the aim. */
    private List<Leap> row(List<Integer> aim) {
        Map<List<Integer>, Integer> depths = depths(now.order);
        if (!depths.containsKey(aim)) {
            return null;
        }
        Set<List<Integer>> good = new HashSet<>();
        good.add(aim);
        for (int d = depths.get(aim) - 1; d >= 0; d--) {
            for (List<Integer> order : depths.keySet()) {
                if (depths.get(order) == d) {
                    for (Leap leap : leaps(order)) {
                        List<Integer> next = leaped(order, leap);
                        if (good.contains(next) && depths.get(next) == d + 1) {
                            good.add(order);
                        }
                    }
                }
            }
        }
        List<Leap> row = new ArrayList<>();
        List<Integer> order = now.order;
        while (!order.equals(aim)) {
            for (Leap leap : leaps(order)) {
                List<Integer> next = leaped(order, leap);
                if (good.contains(next) && depths.get(next) == row.size() + 1) {
                    row.add(leap);
                    order = next;
                    break;
                }
            }
        }
        return row;
    }

    private static List<List<Integer>> permutations(int n) {
        List<List<Integer>> all = new ArrayList<>();
        all.add(new ArrayList<>());
        for (int c = 0; c < n; c++) {
            List<List<Integer>> longer = new ArrayList<>();
            for (List<Integer> p : all) {
                for (int i = 0; i <= p.size(); i++) {
                    List<Integer> q = new ArrayList<>(p);
                    q.add(i, c);
                    longer.add(q);
                }
            }
            all = longer;
        }
        return all;
    }

    // ---- the face

    int feed(int a, int b, int c, int d, int e) {
        if (tape.length + 20 > 400) {
            return NONE;
        }
        byte[] longer = Arrays.copyOf(tape, tape.length + 20);
        int[] numbers = {a, b, c, d, e};
        for (int i = 0; i < 20; i++) {
            longer[tape.length + i] = (byte) (numbers[i / 4] >>> 24 - 8 * (i % 4));
        }
        tape = longer;
        return tape.length;
    }

    int end(int n) {
        if (n < 0 || n > tape.length) {
            return NONE;
        }
        tape = Arrays.copyOf(tape, n);
        return n;
    }

    int lane() {
        World w;
        try {
            w = readLane();
        } catch (Fault f) {
            return -2 - f.number;
        } finally {
            tape = new byte[0];
        }
        w.force = now.force;
        w.x = now.x;
        now = w;
        past.clear();
        return w.many();
    }

    int rule() {
        if (rules.size() == 6) {
            return NONE;
        }
        try {
            rules.add(readRule());
        } catch (Fault f) {
            return -2 - f.number;
        } finally {
            tape = new byte[0];
        }
        return rules.size() - 1;
    }

    int force(int rule) {
        if (rule < -1 || rule >= rules.size()) {
            return -2;
        }
        int was = now.force;
        now.force = rule;
        return was;
    }

    private boolean kid(int c) {
        return c >= 0 && c < now.many();
    }

    int child(int c, int what) {
        if (!kid(c) || what < 0 || what > 5) {
            return NONE;
        }
        return new int[] {now.back[c], now.kids.get(c).leap(), now.breath[c], now.order.indexOf(c), now.over(c),
            now.leapt[c]}[what];
    }

    int order() {
        return now.kids == null ? NONE : number(now.order);
    }

    private void act() {
        past.add(now.copy());
        if (past.size() > 20) {
            past.remove(0);
        }
    }

    int turn() {
        if (now.kids == null || now.turn == 999) {
            return NONE;
        }
        act();
        return play(now, now.force);
    }

    int leap(int c, int k) {
        if (!kid(c) || !now.can(c) || !now.canLeap(c, k)) {
            return NONE;
        }
        act();
        now.leap(c, k);
        return now.order.indexOf(c);
    }

    int stoop(int c, int back) {
        if (!kid(c) || back < 1 || back > 20 || now.back[c] == back) {
            return NONE;
        }
        act();
        int was = now.back[c];
        now.back[c] = back;
        return was;
    }

    int breath(int c, int much) {
        if (!kid(c) || much < 1 || much > 9) {
            return NONE;
        }
        act();
        now.breath[c] = Math.min(60, now.breath[c] + much);
        return now.breath[c];
    }

    int front(int c) {
        if (!kid(c) || now.first() == c) {
            return NONE;
        }
        act();
        int place = now.order.indexOf(c);
        now.order.remove(place);
        now.order.add(0, c);
        return place;
    }

    int undo() {
        if (past.isEmpty()) {
            return NONE;
        }
        World then = past.remove(past.size() - 1);
        then.notes = now.notes;
        then.force = now.force;
        then.x = now.x;
        now = then;
        return past.size();
    }

    int fewest(int order) {
        List<Integer> aim = orderOf(order);
        if (aim == null) {
            return NONE;
        }
        Integer d = depths(now.order).get(aim);
        return d == null ? -2 : d;
    }

    int step(int order, int i, int what) {
        List<Integer> aim = orderOf(order);
        if (aim == null || i < 0 || what < 0 || what > 1) {
            return NONE;
        }
        List<Leap> row = row(aim);
        if (row == null || i >= row.size()) {
            return -2;
        }
        return what == 0 ? row.get(i).who() : row.get(i).backs();
    }

    int orders(int n) {
        if (now.kids == null || n < 0 || n > 30) {
            return NONE;
        }
        return (int) depths(now.order).values().stream().filter(d -> d <= n).count();
    }

    int farthest(int what) {
        if (now.kids == null || what < 0 || what > 1) {
            return NONE;
        }
        Map<List<Integer>, Integer> depths = depths(now.order);
        int most = depths.values().stream().max(Integer::compare).get();
        TreeSet<Integer> numbers = new TreeSet<>();
        for (List<Integer> order : depths.keySet()) {
            if (depths.get(order) == most) {
                numbers.add(number(order));
            }
        }
        return what == 0 ? most : numbers.first();
    }

    int first(int c) {
        if (!kid(c)) {
            return NONE;
        }
        Map<List<Integer>, Integer> depths = depths(now.order);
        return depths.keySet().stream().filter(o -> o.get(0) == c).mapToInt(depths::get).min().orElse(-2);
    }

    int behind(int c) {
        if (!kid(c)) {
            return NONE;
        }
        Set<List<Integer>> all = depths(now.order).keySet();
        int bits = 0;
        for (int d = 0; d < now.many(); d++) {
            int other = d;
            if (d != c && all.stream().allMatch(o -> o.indexOf(other) < o.indexOf(c))) {
                bits |= 1 << d;
            }
        }
        return bits;
    }

    int sources() {
        if (now.kids == null) {
            return NONE;
        }
        int many = 0;
        for (List<Integer> order : permutations(now.many())) {
            boolean leads = false;
            for (Leap leap : leaps(order)) {
                leads |= leaped(order, leap).equals(now.order);
            }
            many += leads ? 1 : 0;
        }
        return many;
    }

    int ahead(int c, int n, int what) {
        if (now.kids == null || n < 0 || n > 100 || what < 0 || what > 2 || what == 1 && !kid(c)) {
            return NONE;
        }
        World w = after(now, n);
        return what == 0 ? number(w.order) : what == 1 ? w.breath[c] : w.all();
    }

    int leads(int c) {
        if (!kid(c)) {
            return NONE;
        }
        World w = now.copy();
        for (int i = 0; i < 200; i++) {
            int turn = w.turn;
            play(w, w.force);
            if (w.first() == c) {
                return turn;
            }
        }
        return -2;
    }

    int stuck() {
        if (now.kids == null) {
            return NONE;
        }
        World w = now.copy();
        for (int i = 0; i < 200; i++) {
            int turn = w.turn;
            if (play(w, w.force) == -2) {
                return turn;
            }
        }
        return -2;
    }

    int given(int n, int what) {
        if (now.kids == null || n < 1 || n > 40 || what < 0 || what > 1) {
            return -2;
        }
        List<Integer> totals = new ArrayList<>();
        totals.add(after(now, n).all());
        for (int c = 0; c < now.many(); c++) {
            World w = now.copy();
            w.breath[c] = Math.min(60, w.breath[c] + 5);
            totals.add(after(w, n).all());
        }
        int most = totals.stream().max(Integer::compare).get();
        return what == 0 ? totals.indexOf(most) - 1 : most;
    }

    private World begun(int child, Integer back, Integer leap) {
        World w = now.copy();
        w.kids = new ArrayList<>(now.kids);
        if (child >= 0) {
            Kid k = now.kids.get(child);
            w.kids.set(child, new Kid(back != null ? back : k.back(), leap != null ? leap : k.leap(), k.breath()));
        }
        w.begin();
        return w;
    }

    private List<Integer> firsts(World begun, int force) {
        World w = begun.copy();
        List<Integer> firsts = new ArrayList<>();
        for (int n = 0; n <= 60; n++) {
            play(w, force);
            firsts.add(w.first());
        }
        return firsts;
    }

    private boolean noted(List<Integer> firsts) {
        return now.notes.stream().allMatch(n -> firsts.get(n.turn()) == n.child());
    }

    int leapsOf(int c) {
        if (!kid(c)) {
            return NONE;
        }
        int bits = 0;
        for (int v = 1; v <= 20; v++) {
            bits += noted(firsts(begun(c, null, v), now.force)) ? 1 << v : 0;
        }
        return bits;
    }

    int backsOf(int c) {
        if (!kid(c)) {
            return NONE;
        }
        int bits = 0;
        for (int v = 1; v <= 20; v++) {
            bits += noted(firsts(begun(c, v, null), now.force)) ? 1 << v : 0;
        }
        return bits;
    }

    private int gain(int who, int one, int backOne, int other, int backOther, int n) {
        World w = now.copy();
        w.back[one] = backOne;
        w.back[other] = backOther;
        w = after(w, n);
        return 2 * (w.leapt[who] - now.leapt[who]) - w.order.indexOf(who);
    }

    int rests(int one, int other, int n, int what) {
        if (!kid(one) || !kid(other) || one == other || n < 1 || n > 20 || what < 0 || what > 2) {
            return NONE;
        }
        List<int[]> twos = new ArrayList<>();
        for (int a = 5; a <= 20; a += 5) {
            for (int b = 5; b <= 20; b += 5) {
                boolean rest = true;
                for (int z = 5; z <= 20; z += 5) {
                    rest &= gain(one, one, z, other, b, n) <= gain(one, one, a, other, b, n);
                    rest &= gain(other, one, a, other, z, n) <= gain(other, one, a, other, b, n);
                }
                if (rest) {
                    twos.add(new int[] {a, b});
                }
            }
        }
        return what == 0 ? twos.size() : twos.isEmpty() ? -2 : twos.get(0)[what - 1];
    }

    int alike(int what) {
        if (now.kids == null || what < 0 || what > 1) {
            return NONE;
        }
        List<String> signs = new ArrayList<>();
        for (int i = 0; i <= 60; i++) {
            World w = after(now, i);
            signs.add(w.order + " " + Arrays.toString(w.breath));
        }
        for (int i = 0; i < 60; i++) {
            int later = signs.subList(i + 1, 61).indexOf(signs.get(i));
            if (later >= 0) {
                return what == 0 ? now.turn + i : later + 1;
            }
        }
        return -2;
    }

    int pence(int much, int c) {
        if (!kid(c) || much < 0 || much > 9999) {
            return NONE;
        }
        int all = now.all();
        if (all == 0) {
            return 0;
        }
        int[] parts = new int[now.many()];
        List<Integer> byLoss = new ArrayList<>();
        int left = much;
        for (int d = 0; d < now.many(); d++) {
            parts[d] = much * now.leapt[d] / all;
            left -= parts[d];
            byLoss.add(d);
        }
        byLoss.sort((d, e) -> Integer.compare(much * now.leapt[e] % all, much * now.leapt[d] % all));
        for (int i = 0; i < left; i++) {
            parts[byLoss.get(i)]++;
        }
        return parts[c];
    }

    int note(int n, int c) {
        if (n == NONE) {
            now.notes.clear();
            return 0;
        }
        if (n < 0 || n > 60 || !kid(c) || now.notes.size() == 10) {
            return -2;
        }
        now.notes.add(new Note(n, c));
        return now.notes.size();
    }

    private List<Integer> so() {
        List<Integer> list = new ArrayList<>();
        for (int r = -1; r < rules.size(); r++) {
            if (noted(firsts(begun(-1, null, null), r))) {
                list.add(r);
            }
        }
        return list;
    }

    int ruled(int what) {
        if (now.kids == null || what < 0 || what > 1) {
            return -3;
        }
        List<Integer> so = so();
        return what == 0 ? so.size() : so.isEmpty() ? -2 : so.get(0);
    }

    int look(int what) {
        if (now.kids == null || what < 0 || what > 1) {
            return NONE;
        }
        List<Integer> so = so();
        if (so.isEmpty() || now.many() == 0) {
            return -2;
        }
        int best = -1;
        int fewest = 99;
        for (int n = 0; n <= 60; n++) {
            Map<Integer, Integer> groups = new HashMap<>();
            for (int r : so) {
                groups.merge(firsts(begun(-1, null, null), r).get(n), 1, Integer::sum);
            }
            int most = groups.values().stream().max(Integer::compare).get();
            if (most < fewest) {
                fewest = most;
                best = n;
            }
        }
        return what == 0 ? best : fewest;
    }

    int seed(int x) {
        if (x < 0) {
            return NONE;
        }
        int was = (int) now.x;
        now.x = x;
        return was;
    }

    int stumbles(int m, int n, int p, int what) {
        if (now.kids == null || m < 1 || m > 10 || n < 1 || n > 60 || p < 0 || p > 100 || what < 0 || what > 1) {
            return NONE;
        }
        long x = now.x;
        int leapt = 0;
        int first = 0;
        for (int i = 0; i < m; i++) {
            World w = now.copy();
            for (int t = 0; t < n; t++) {
                x = (x * 1103515245L + 12345L) % 2147483648L;
                if (x / 65536 % 100 < p && w.many() > 0) {
                    x = (x * 1103515245L + 12345L) % 2147483648L;
                    w.breath[(int) (x / 65536 % w.many())] = 0;
                }
                play(w, w.force);
            }
            leapt += w.all();
            first += w.first() == 0 ? 1 : 0;
        }
        return what == 0 ? leapt : first;
    }

    int count(int what) {
        int bits = 0;
        for (int c : now.able()) {
            bits |= 1 << c;
        }
        int[] all = {now.spring, now.many(), rules.size(), now.force, now.turn, bits, now.first(), now.all(),
            now.notes.size(), past.size(), (int) now.x, tape.length};
        return what < 0 || what > 11 ? NONE : all[what];
    }

    int image(int k) {
        if (k < 0 || k > 3) {
            return NONE;
        }
        images[k] = now.copy();
        return now.turn;
    }

    int back(int k) {
        if (k < 0 || k > 3 || images[k] == null) {
            return NONE;
        }
        now = images[k].copy();
        past.clear();
        return now.turn;
    }
}

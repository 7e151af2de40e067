import java.nio.charset.StandardCharsets;
import java.util.ArrayList;
import java.util.Arrays;
import java.util.List;
import java.util.Random;

/** Drawn runs of calls (always the same ones), each answered by LeapLane and by the naive Model of the document. */
public final class ModelTest {
    private static final String[] NAMES = {"feed", "end", "lane", "rule", "force", "child", "order", "turn", "leap",
        "stoop", "breath", "front", "undo", "fewest", "step", "orders", "farthest", "first", "behind", "sources", "ahead",
        "leads", "stuck", "given", "leapsOf", "backsOf", "rests", "alike", "pence", "note", "ruled", "look", "seed",
        "stumbles", "count", "image", "back"};

    private final Random random;
    private final LeapLane lane = new LeapLane();
    private final Model model = new Model();
    private final List<String> told = new ArrayList<>();
    private int calls = 0;

    private ModelTest(long seed) {
        random = new Random(seed);
    }

    private static int ask(LeapLane x, String name, int[] a) {
        switch (name) {
            case "feed": return x.feed(a[0], a[1], a[2], a[3], a[4]);
            case "end": return x.end(a[0]);
            case "lane": return x.lane();
            case "rule": return x.rule();
            case "force": return x.force(a[0]);
            case "child": return x.child(a[0], a[1]);
            case "order": return x.order();
            case "turn": return x.turn();
            case "leap": return x.leap(a[0], a[1]);
            case "stoop": return x.stoop(a[0], a[1]);
            case "breath": return x.breath(a[0], a[1]);
            case "front": return x.front(a[0]);
            case "undo": return x.undo();
            case "fewest": return x.fewest(a[0]);
            case "step": return x.step(a[0], a[1], a[2]);
            case "orders": return x.orders(a[0]);
            case "farthest": return x.farthest(a[0]);
            case "first": return x.first(a[0]);
            case "behind": return x.behind(a[0]);
            case "sources": return x.sources();
            case "ahead": return x.ahead(a[0], a[1], a[2]);
            case "leads": return x.leads(a[0]);
            case "stuck": return x.stuck();
            case "given": return x.given(a[0], a[1]);
            case "leapsOf": return x.leapsOf(a[0]);
            case "backsOf": return x.backsOf(a[0]);
            case "rests": return x.rests(a[0], a[1], a[2], a[3]);
            case "alike": return x.alike(a[0]);
            case "pence": return x.pence(a[0], a[1]);
            case "note": return x.note(a[0], a[1]);
            case "ruled": return x.ruled(a[0]);
            case "look": return x.look(a[0]);
            case "seed": return x.seed(a[0]);
            case "stumbles": return x.stumbles(a[0], a[1], a[2], a[3]);
            case "count": return x.count(a[0]);
            case "image": return x.image(a[0]);
            case "back": return x.back(a[0]);
            default: throw new IllegalArgumentException(name);
        }
    }

    private static int ask(Model x, String name, int[] a) {
        switch (name) {
            case "feed": return x.feed(a[0], a[1], a[2], a[3], a[4]);
            case "end": return x.end(a[0]);
            case "lane": return x.lane();
            case "rule": return x.rule();
            case "force": return x.force(a[0]);
            case "child": return x.child(a[0], a[1]);
            case "order": return x.order();
            case "turn": return x.turn();
            case "leap": return x.leap(a[0], a[1]);
            case "stoop": return x.stoop(a[0], a[1]);
            case "breath": return x.breath(a[0], a[1]);
            case "front": return x.front(a[0]);
            case "undo": return x.undo();
            case "fewest": return x.fewest(a[0]);
            case "step": return x.step(a[0], a[1], a[2]);
            case "orders": return x.orders(a[0]);
            case "farthest": return x.farthest(a[0]);
            case "first": return x.first(a[0]);
            case "behind": return x.behind(a[0]);
            case "sources": return x.sources();
            case "ahead": return x.ahead(a[0], a[1], a[2]);
            case "leads": return x.leads(a[0]);
            case "stuck": return x.stuck();
            case "given": return x.given(a[0], a[1]);
            case "leapsOf": return x.leapsOf(a[0]);
            case "backsOf": return x.backsOf(a[0]);
            case "rests": return x.rests(a[0], a[1], a[2], a[3]);
            case "alike": return x.alike(a[0]);
            case "pence": return x.pence(a[0], a[1]);
            case "note": return x.note(a[0], a[1]);
            case "ruled": return x.ruled(a[0]);
            case "look": return x.look(a[0]);
            case "seed": return x.seed(a[0]);
            case "stumbles": return x.stumbles(a[0], a[1], a[2], a[3]);
            case "count": return x.count(a[0]);
            case "image": return x.image(a[0]);
            case "back": return x.back(a[0]);
            default: throw new IllegalArgumentException(name);
        }
    }

    private int call(String name, int... args) {
        calls++;
        int want = ask(model, name, args);
        int got = ask(lane, name, args);
        told.add(name + Arrays.toString(args) + " = " + got);
        if (want != got) {
            System.out.println(String.join("\n", told));
            System.out.println("ModelTest: the last one is due to be " + want);
            System.exit(1);
        }
        return got;
    }

    private int draw(int least, int most) {
        return least + random.nextInt(most - least + 1);
    }

    /** Mostly within, now and then just outside or far off. */
    private int about(int least, int most) {
        int kind = random.nextInt(40);
        if (kind == 0) {
            return least - 1;
        }
        if (kind == 1) {
            return most + 1;
        }
        if (kind == 2) {
            return random.nextInt();
        }
        return kind == 3 ? (random.nextBoolean() ? Integer.MIN_VALUE : Integer.MAX_VALUE) : draw(least, most);
    }

    // ---- texts

    private String gap() {
        int kind = random.nextInt(6);
        return kind == 0 ? "" : kind == 1 ? "  " : " ";
    }

    private String laneText() {
        StringBuilder s = new StringBuilder("lane" + gap() + draw(1, 6));
        int many = random.nextInt(12) == 0 ? 8 : random.nextInt(4) == 0 ? draw(0, 7) : draw(2, 5);
        int style = random.nextInt(3);
        for (int i = 0; i < many; i++) {
            int back = style == 0 ? draw(1, 20) : draw(4, 12);
            int leap = style == 1 ? draw(6, 20) : draw(1, 20);
            s.append(gap()).append(';').append(gap()).append("child").append(gap()).append(back).append(' ').append(gap())
                .append(leap).append(' ').append(random.nextInt(3) == 0 ? draw(0, 30) : draw(0, 6));
        }
        return s.toString();
    }

    private String value() {
        String[] words = {"child", "place", "back", "leap", "breath", "over", "leapt", "many", "can", "turn"};
        return random.nextInt(3) > 0 ? words[random.nextInt(10)]
            : "" + (random.nextInt(8) == 0 ? draw(0, 99999) : draw(0, 12));
    }

    private String sum() {
        StringBuilder s = new StringBuilder(value());
        for (int more = random.nextInt(4); more > 0; more--) {
            s.append(gap()).append("+-*/%+-*".charAt(random.nextInt(8))).append(gap()).append(value());
        }
        return s.toString();
    }

    private String test(int depth) {
        StringBuilder s = new StringBuilder(fact(depth));
        for (int more = random.nextInt(3); more > 0; more--) {
            s.append(random.nextBoolean() ? " and " : " or ").append(fact(depth));
        }
        return s.toString();
    }

    private String fact(int depth) {
        int kind = depth > 3 ? 5 : random.nextInt(6);
        if (kind == 0) {
            return "not " + fact(depth + 1);
        }
        if (kind == 1) {
            return "[" + gap() + test(depth + 1) + gap() + "]";
        }
        String[] signs = {"<", "<=", "=", ">=", ">"};
        return sum() + gap() + signs[random.nextInt(5)] + gap() + sum();
    }

    private String clause() {
        return "leap " + sum() + (random.nextInt(4) > 0 ? " if " + test(0) : "");
    }

    private String ruleText() {
        int kind = random.nextInt(12);
        if (kind == 0) {
            return "leap 1 if " + "not ".repeat(draw(8, 12)) + "1<2";
        }
        if (kind == 1) {
            int deep = draw(8, 12);
            return "leap 1 if " + "[".repeat(deep) + "over>0" + "]".repeat(random.nextInt(5) == 0 ? 10 : deep);
        }
        if (kind == 2) {
            return "leap 1" + "+1".repeat(draw(56, 61)) + (random.nextBoolean() ? " if 1<2" : "");
        }
        if (kind == 3) {
            return "leap place" + ";leap 2".repeat(draw(10, 13));
        }
        if (kind == 4) {
            return "leap 12" + "3".repeat(draw(2, 5)) + "-back*" + "9".repeat(draw(4, 6));
        }
        if (kind == 5) {
            return "leap turn" + " * 99999".repeat(draw(1, 20)) + " / child if not [ place = 1 or not can < 2 ] and over > 0;leap 1";
        }
        StringBuilder s = new StringBuilder(clause());
        for (int more = random.nextInt(4); more > 0; more--) {
            s.append(gap()).append(";").append(gap()).append(clause());
        }
        return s.toString();
    }

    private byte[] spoilt(String text) {
        StringBuilder s = new StringBuilder(text);
        String signs = "abcdefghilnoprtuvy0123456789 ;[]<>=+-*/%\u0000\u00ffAZ{`";
        for (int i = random.nextInt(5) == 0 ? draw(1, 3) : 0; i > 0 && s.length() > 0; i--) {
            int at = random.nextInt(s.length());
            int kind = random.nextInt(4);
            if (kind == 0) {
                s.deleteCharAt(at);
            } else if (kind == 1) {
                s.insert(at, signs.charAt(random.nextInt(signs.length())));
            } else if (kind == 2) {
                s.setCharAt(at, signs.charAt(random.nextInt(signs.length())));
            } else {
                s.setLength(at);
            }
        }
        return s.toString().getBytes(StandardCharsets.ISO_8859_1);
    }

    private void tell(String text, String as) {
        byte[] bytes = spoilt(text);
        if (random.nextInt(30) > 0) {
            call("end", 0);
        }
        int was = call("count", 11);
        for (int at = 0; at < bytes.length; at += 20) {
            call("feed", Told.four(bytes, at), Told.four(bytes, at + 4), Told.four(bytes, at + 8), Told.four(bytes, at + 12),
                Told.four(bytes, at + 16));
        }
        call("end", was + bytes.length);
        call(as);
        call("count", 11);
    }

    // ---- calls

    private int kid() {
        int many = model.count(1);
        return random.nextInt(12) == 0 ? about(-1, 7) : many == 0 ? 0 : random.nextInt(many);
    }

    private int anOrder() {
        int many = model.count(1);
        int kind = random.nextInt(12);
        if (kind == 0) {
            return random.nextInt();
        }
        List<Integer> digits = new ArrayList<>();
        for (int c = 1; c <= many; c++) {
            digits.add(c);
        }
        java.util.Collections.shuffle(digits, random);
        if (kind == 1) {
            digits.add(draw(0, 9));
        } else if (kind == 2 && many > 0) {
            digits.set(random.nextInt(many), draw(0, 9));
        } else if (kind < 6) {
            return model.ahead(0, draw(0, 9), 0);
        }
        int number = 0;
        for (int d : digits) {
            number = 10 * number + d;
        }
        return number;
    }

    private void any() {
        boolean heavy = model.count(1) > 5;
        String name = NAMES[random.nextInt(NAMES.length)];
        if (random.nextInt(5) == 0) {
            name = new String[] {"turn", "leap", "stoop", "breath", "front", "turn"}[random.nextInt(6)];
        }
        switch (name) {
            case "feed":
                call(name, random.nextInt(), random.nextInt(), random.nextInt(), random.nextInt(), random.nextInt());
                break;
            case "end": call(name, random.nextInt(3) > 0 ? 0 : about(0, 60)); break;
            case "lane": tell(laneText(), "lane"); break;
            case "rule":
                tell(ruleText(), "rule");
                call("force", draw(-1, Math.max(-1, model.count(2) - 1)));
                break;
            case "force": call(name, about(-1, Math.max(0, model.count(2) - 1))); break;
            case "child": call(name, kid(), about(0, 5)); break;
            case "leap": call(name, kid(), draw(-1, 4)); break;
            case "stoop": call(name, kid(), about(1, 20)); break;
            case "breath": call(name, kid(), about(1, 9)); break;
            case "fewest": call(name, anOrder()); break;
            case "step":
                if (!heavy || random.nextInt(20) == 0) {
                    call(name, anOrder(), draw(-1, 5), draw(-1, 2));
                }
                break;
            case "orders": call(name, random.nextBoolean() ? draw(0, 6) : about(0, 30)); break;
            case "farthest": case "alike": case "ruled": case "look": call(name, about(0, 1)); break;
            case "front": case "first": case "behind": case "leads": case "leapsOf": case "backsOf":
                call(name, kid());
                break;
            case "ahead": call(name, kid(), about(0, 100), about(0, 2)); break;
            case "given": call(name, about(1, 40), about(0, 1)); break;
            case "rests": call(name, kid(), kid(), random.nextBoolean() ? draw(1, 5) : about(1, 20), about(0, 2)); break;
            case "pence": call(name, about(0, 9999), kid()); break;
            case "note":
                call(name, random.nextInt(6) == 0 ? -1 : random.nextBoolean() ? draw(0, 8) : about(0, 60), kid());
                break;
            case "seed": call(name, random.nextInt()); break;
            case "stumbles": call(name, about(1, 10), about(1, 60), about(0, 100), about(0, 1)); break;
            case "count": call(name, about(0, 11)); break;
            case "image": case "back": call(name, about(0, 3)); break;
            case "undo":
                for (int i = random.nextInt(8) == 0 ? 22 : draw(1, 3); i > 0; i--) {
                    call(name);
                }
                break;
            default: call(name);
        }
    }

    /** Notes that a game really gives, so that some rules fit. */
    private void noteWell() {
        call("note", -1, 0);
        Model game = new Model();
        int n = draw(1, 4);
        for (int i = 0; i < n && model.count(1) > 0; i++) {
            int turn = draw(0, 12);
            int bit = model.leapsOf(0);
            call("note", turn, draw(0, model.count(1) - 1));
            if (model.ruled(0) == 0 || bit == 0) {
                call("note", -1, 0);
            }
        }
        call("ruled", 0);
        call("ruled", 1);
        call("look", 0);
        call("look", 1);
        call("leapsOf", kid());
        call("backsOf", kid());
    }

    private int run() {
        if (random.nextInt(4) > 0) {
            tell(laneText(), "lane");
        }
        while (calls < 480) {
            any();
            if (random.nextInt(60) == 0) {
                noteWell();
            }
        }
        for (int what = -1; what <= 12; what++) {
            call("count", what);
        }
        return calls;
    }

    public static void main(String[] args) {
        int runs = args.length > 0 ? Integer.parseInt(args[0]) : 150;
        long seed = args.length > 1 ? Long.parseLong(args[1]) : 1;
        long all = 0;
        for (int i = 0; i < runs; i++) {
            all += new ModelTest(seed * 1000003L + i).run();
        }
        System.out.println("ModelTest: " + all + " answers as the model's, in " + runs + " runs");
    }
}

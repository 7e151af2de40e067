import java.nio.charset.StandardCharsets;
import java.util.Random;

/** Promises 4 and 5 once more: texts drawn sign by sign, and what LeapLane and the Model answer to them. */
public final class SoupTest {
    private static final String[] LANE = {"lane", "child", ";", " ", " ", " ", "1", "6", "7", "0", "20", "21", "30", "31",
        "00005", "000005", "lane 1", ";child 1 2 3", ";child 4 5 6", ";child 7 8 9", "x", "leap"};
    private static final String[] RULE = {"leap", "leap 1", ";leap ", ";", " ", " ", "if", " if ", "not ", "[", "]", " and ",
        " or ", "<", "<=", "=", ">=", ">", "+", "-", "*", "/", "%", "1", "99999", "100000", "child", "place", "back",
        "breath", "over", "leapt", "many", "can", "turn", "1<2", " over>0 ", "x", "lane", "\u00ff"};

    private static String soup(Random random, String start, String[] signs) {
        StringBuilder s = new StringBuilder(random.nextInt(4) == 0 ? "" : start);
        for (int i = random.nextInt(1 + random.nextInt(14)); i > 0; i--) {
            s.append(signs[random.nextInt(signs.length)]);
        }
        return s.length() > 400 ? s.substring(0, 400) : s.toString();
    }

    private static void tell(Model x, String text) {
        byte[] bytes = text.getBytes(StandardCharsets.ISO_8859_1);
        x.end(0);
        for (int at = 0; at < bytes.length; at += 20) {
            x.feed(Told.four(bytes, at), Told.four(bytes, at + 4), Told.four(bytes, at + 8), Told.four(bytes, at + 12),
                Told.four(bytes, at + 16));
        }
        x.end(bytes.length);
    }

    public static void main(String[] args) {
        Told t = new Told("SoupTest");
        Random random = new Random(11);
        int read = 0;
        LeapLane lane = new LeapLane();
        for (int i = 0; i < 40000; i++) {
            Model model = new Model();
            boolean isLane = i % 4 == 0;
            String text = isLane ? soup(random, "lane 2", LANE) : soup(random, random.nextBoolean() ? "leap 1" : "leap 1 if 1<2", RULE);
            if (!isLane && lane.count(2) > 4) {
                lane = new LeapLane();
            }
            tell(model, text);
            Told.put(lane, text);
            int had = lane.count(2);
            int want = isLane ? model.lane() : model.rule();
            int got = isLane ? lane.lane() : lane.rule();
            t.due((isLane ? "lane '" : "rule '") + text + "'", want < 0 || isLane ? want : had, got);
            read += got >= 0 ? 1 : 0;
        }
        t.due("texts without a fault are not rare", 1, read > 500 ? 1 : 0);
        t.close();
    }
}

import java.nio.charset.StandardCharsets;
import java.util.List;

/** What the tests share: feeding texts, and counting answers that are not as due. */
final class Told {
    private final String name;
    private int asked = 0;
    private int wrong = 0;

    Told(String name) {
        this.name = name;
    }

    void due(String call, long want, long got) {
        asked++;
        if (got != want) {
            wrong++;
            System.out.println(name + ": " + call + " answered " + got + ", due is " + want);
        }
    }

    /** What two objects tell has to be the same; the first that differs is printed. */
    void alike(String call, List<String> want, List<String> got) {
        asked++;
        int at = 0;
        while (at < want.size() && at < got.size() && want.get(at).equals(got.get(at))) {
            at++;
        }
        if (at < want.size() || at < got.size()) {
            wrong++;
            System.out.println(name + ": " + call + " there is " + (at < got.size() ? got.get(at) : "nothing more")
                + ", due is " + (at < want.size() ? want.get(at) : "nothing more"));
        }
    }

    void close() {
        System.out.println(name + ": " + (asked - wrong) + " answers as due, " + wrong + " not");
        if (wrong != 0) {
            System.exit(1);
        }
    }

    /** The TAPE is that text alone then. */
    static void put(LeapLane x, String text) {
        putBytes(x, text.getBytes(StandardCharsets.ISO_8859_1));
    }

    static void putBytes(LeapLane x, byte[] bytes) {
        x.end(0);
        for (int at = 0; at < bytes.length; at += 20) {
            x.feed(four(bytes, at), four(bytes, at + 4), four(bytes, at + 8), four(bytes, at + 12), four(bytes, at + 16));
        }
        x.end(bytes.length);
    }

    static int four(byte[] bytes, int at) {
        int number = 0;
        for (int i = at; i < at + 4; i++) {
            number = number << 8 | (i < bytes.length ? bytes[i] & 255 : 0);
        }
        return number;
    }

    static int lane(LeapLane x, String text) {
        put(x, text);
        return x.lane();
    }

    static int rule(LeapLane x, String text) {
        put(x, text);
        return x.rule();
    }

    static LeapLane of(String lane, String... rules) {
        LeapLane x = new LeapLane();
        lane(x, lane);
        for (String rule : rules) {
            rule(x, rule);
        }
        return x;
    }

    /** What lane() and rule() answer to a FAULT of that kind at that place. */
    static int fault(int place, int kind) {
        return -2 - (1 + 8 * place + kind);
    }
}

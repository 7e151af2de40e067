import java.io.IOException;
import java.lang.reflect.Field;
import java.lang.reflect.Method;
import java.lang.reflect.Modifier;
import java.nio.file.Files;
import java.nio.file.Path;
import java.util.Set;
import java.util.TreeSet;
import java.util.regex.Matcher;
import java.util.regex.Pattern;

/**
 * The document from its first line to its last: each sentence and, behind it, what it asks, reckoned by hand (a
 * few rests by a program, as said there). The sentences have to be those of ../shared/DOC.md, all of them, in their
 * order.
 */
public final class DocumentTest {
    private static final Told T = new Told("DocumentTest");
    private static final Path DOCUMENT = Path.of("../shared/DOC.md");
    private static final int NONE = LeapLane.NONE;

    /** Backs 5 8 4 9, leaps 9 6 7 5: CHILDREN 1 and 3 CAN in TURN 0, one back each. */
    private static final String FOUR = "lane 2;child 5 9 3;child 8 6 2;child 4 7 1;child 9 5 5";
    /** They leap one another by turns: CHILD 1 in TURN 0, CHILD 0 in TURN 1 .. */
    private static final String TWO = "lane 1;child 1 1 5;child 1 1 5";
    /** CHILDREN 0 and 2 can leap all, CHILD 1 nobody: 123, 132 and 312 can be reached. */
    private static final String ONE_STAYS = "lane 1;child 5 9 0;child 5 3 0;child 5 9 0";
    /** All can leap all, two backs at once, but have no breath. */
    private static final String FREE = "lane 2;child 1 20 0;child 1 20 0;child 1 20 0";
    private static final int ALL_NUMBERS = 0x1ffffe;

    /** The document's sentences, one blank apart, without headings and without the face; null: it is not there. */
    private static String document;
    private static int at;

    // ---- the walk

    private static void open() throws IOException {
        if (!Files.exists(DOCUMENT)) {
            System.out.println("DocumentTest: there is no " + DOCUMENT + ", its sentences are taken as they stand here");
            return;
        }
        String whole = Files.readString(DOCUMENT);
        face(whole);
        document = whole.replaceAll("(?s)```java\n.*?\n```", "").replaceAll("(?m)^(#|```).*$", "")
            .replaceAll("\\s+", " ").trim();
    }

    private static void says(String sentence) {
        if (document == null) {
            return;
        }
        boolean goesOn = document.startsWith(sentence, at);
        T.due("'" + sentence + "' stands where the document has '"
            + document.substring(at, Math.min(document.length(), at + 60)) + "'", 1, goesOn ? 1 : 0);
        if (!goesOn) {
            T.close();
        }
        at += sentence.length();
        while (at < document.length() && document.charAt(at) == ' ') {
            at++;
        }
    }

    private static void ends() {
        if (document != null) {
            T.due("signs of the document that are left", 0, document.length() - at);
        }
    }

    /** The public face, word by word: nothing else is public. */
    private static void face(String whole) {
        Set<String> due = new TreeSet<>();
        Matcher told = Pattern.compile("(?m)^    public (.*);$").matcher(whole);
        while (told.find()) {
            due.add(told.group(1).replaceAll("(int) \\w+(?=[,)])", "$1").replace(", ", ","));
        }
        Set<String> found = new TreeSet<>();
        for (Method m : LeapLane.class.getDeclaredMethods()) {
            if (Modifier.isPublic(m.getModifiers())) {
                String all = m.toGenericString();
                found.add(all.replace("public ", "").replace("LeapLane.", ""));
            }
        }
        for (Field f : LeapLane.class.getFields()) {
            found.add(f.toGenericString().replace("public ", "").replace("LeapLane.", "") + " = -1");
        }
        for (Object c : LeapLane.class.getConstructors()) {
            found.add(c.toString().replace("public ", ""));
        }
        T.due("told in the face: " + due.size(), 39, due.size());
        T.due("the face: " + found, 1, found.equals(due) ? 1 : 0);
        T.due("public final class", Modifier.PUBLIC | Modifier.FINAL, LeapLane.class.getModifiers());
    }

    // ---- what several sentences ask

    private static LeapLane forced(String lane, String rule) {
        LeapLane x = Told.of(lane, rule);
        x.force(0);
        return x;
    }

    /** Whether a TEST holds for CHILD 1 of TWO, the only one who CAN, in TURN 0. */
    private static void holds(String test, int want) {
        T.due("'" + test + "' holds", want == 1 ? 1 : -2, forced(TWO, "leap 1 if " + test).turn());
    }

    private static void laneFault(String text, int place, int kind) {
        T.due("lane '" + text + "'", -2 - (1 + 8 * place + kind), Told.lane(new LeapLane(), text));
    }

    private static void ruleFault(String text, int place, int kind) {
        T.due("rule '" + text + "'", -2 - (1 + 8 * place + kind), Told.rule(new LeapLane(), text));
    }

    private static void goodRule(String text) {
        T.due("rule '" + text + "'", 0, Told.rule(new LeapLane(), text));
    }

    private static void counts(String when, LeapLane x, int... want) {
        for (int what = 0; what < want.length; what++) {
            T.due(when + ": count(" + what + ")", want[what], x.count(what));
        }
    }

    private static void kid(String when, LeapLane x, int child, int... want) {
        for (int what = 0; what < want.length; what++) {
            T.due(when + ": child(" + child + ", " + what + ")", want[what], x.child(child, what));
        }
    }

    // ---- what it is

    private static void whatItIs() {
        says("Leapfrog down the lane: a lane, told in a language, of how many backs can be leapt at once, of children in a"
            + " row by how high their backs are, how high they leap and how much breath they have; turns by hand, in which"
            + " one leaps over those directly ahead as rules told in a language say, gets out of breath, others get it"
            + " back; leaps, stooping, standing higher, breath given, children taken to the front by hand; by leaps alone,"
            + " whatever the breath: who can leap whom, the fewest leaps to another order and each of them, how many"
            + " orders can be, the farthest, who can be first and how soon, who stays behind whom for ever, which orders"
            + " one leap leads back from; how it goes on, who is first when, when nobody can leap, whom best to give"
            + " breath, how high one can leap or stoop by what was noted, rests of two who stoop, turns alike, pence"
            + " parted by leaps, by which rule games that were told were and where to look next, games of drawn stumbles;"
            + " acts undone; images gone back to. ==== I.");
        says("An object is used for at most 512 calls after it has been made; what later calls answer is free.");
        // end, two feeds, end and lane are five calls; 506 TURNS more, and the 512th call
        LeapLane x = Told.of(TWO);
        for (int i = 0; i < 506; i++) {
            T.due("call " + (i + 6), i % 2 == 0 ? 1 : 0, x.turn());
        }
        T.due("call 512", 12, x.order());
    }

    // ---- I: the LANE

    private static void lane() {
        says("A LANE is a text of at most 400 bytes: CLAUSE { ; CLAUSE }, 40 at most:");
        T.due("of 400 bytes", 2, Told.lane(new LeapLane(), TWO + " ".repeat(370)));
        laneFault("lane 1 child 1 1 0", 7, 0);
        laneFault("lane 1;", 7, 0);
        says("lane NUMBER (SPRING 1 to 6; once, the first CLAUSE) |");
        T.due("SPRING 1", 1, Told.of("lane 1").count(0));
        T.due("SPRING 6", 6, Told.of("lane 6").count(0));
        laneFault("lane 0", 5, 1);
        laneFault("lane 7", 5, 1);
        laneFault("lane 1;lane 2", 7, 4);
        laneFault("child 1 1 0;lane 1", 0, 4);
        says("child NUMBER NUMBER NUMBER (BACK 1 to 20; LEAP 1 to 20; BREATH 0 to 30).");
        LeapLane x = Told.of("lane 1;child 20 1 30;child 1 20 0");
        kid("as told", x, 0, 20, 1, 30);
        kid("as told", x, 1, 1, 20, 0);
        laneFault("lane 1;child 0 1 0", 13, 1);
        laneFault("lane 1;child 21 1 0", 13, 1);
        laneFault("lane 1;child 1 0 0", 15, 1);
        laneFault("lane 1;child 1 21 0", 15, 1);
        laneFault("lane 1;child 1 1 31", 17, 1);
        laneFault("lane 1;child 1 1", 16, 0);
        says("CHILDREN 0 to 6, in the order told, the first one told at the front.");
        LeapLane seven = Told.of("lane 1" + ";child 1 1 0".repeat(6) + ";child 7 1 0");
        T.due("ORDER of seven", 1234567, seven.order());
        T.due("who is first", 0, seven.count(6));
        kid("the last one told", seven, 6, 7, 1, 0, 6, 1, 0);
        T.due("CHILD 7", NONE, seven.child(7, 0));
        says("It is TURN 0; nobody has LEAPT.");
        counts("seven", seven, 1, 7, 0, NONE, 0, 0, 0, 0);
    }

    // ---- I: the RULES

    private static void rules() {
        says("RULES 0 to 5: texts likewise, 12 CLAUSES at most: leap SUM [ if TEST ].");
        LeapLane x = new LeapLane();
        for (int number = 0; number < 6; number++) {
            T.due("RULE " + number, number, Told.rule(x, "leap 1"));
        }
        T.due("a seventh RULE", NONE, Told.rule(x, "leap 1"));
        goodRule("leap 1" + " ".repeat(394));
        goodRule("leap 1" + ";leap 1".repeat(11));
        ruleFault("leap 1" + ";leap 1".repeat(12), 84, 4);
        ruleFault("leap 1 if", 9, 0);
        ruleFault("leap 1 if 1=1 if 1=1", 14, 0);
        says("TEST: PART { or PART }. PART: FACT { and FACT }.");
        holds("1=1 or 1=1 and 1=2", 1);
        holds("1=2 and 1=1 or 1=1", 1);
        holds("1=2 or 1=2 or 1=1", 1);
        holds("1=1 and 1=1 and 1=2", 0);
        holds("1=2 or 1=1 and 1=2", 0);
        says("FACT: not FACT | [ TEST ] (these brackets are signs) | SUM SIGN SUM, SIGN one of < <= = >= >.");
        holds("not 1=2", 1);
        holds("not not 1=2", 0);
        holds("not 1=2 and 1=2", 0);
        holds("not [1=2 and 1=2]", 1);
        holds("[1=1 or 1=1] and 1=2", 0);
        signs();
        sums();
    }

    private static void signs() {
        String[] signs = {"<", "<=", "=", ">=", ">"};
        String[] twos = {"1 2", "2 2", "2 1"};
        int[][] due = {{1, 0, 0}, {1, 1, 0}, {0, 1, 0}, {0, 1, 1}, {0, 0, 1}};
        for (int sign = 0; sign < 5; sign++) {
            for (int two = 0; two < 3; two++) {
                holds(twos[two].replace(" ", signs[sign]), due[sign][two]);
            }
        }
    }

    private static void sums() {
        says("SUM: TERM { (+ or -) TERM }. TERM: VALUE { (* or / or %) VALUE }. VALUE: NUMBER (1 to 5 digits, as far as"
            + " digits go on) | WORD.");
        holds("10-3-2=5", 1);
        holds("10-3+2=9", 1);
        holds("2+3*4=14", 1);
        holds("20-7%4=17", 1);
        holds("20/3*2=12", 1);
        holds("2*20/3=13", 1);
        holds("7%4*2=6", 1);
        holds("00007=7", 1);
        holds("99999=99998+1", 1);
        ruleFault("leap 100000", 5, 1);
        ruleFault("leap 1 2", 7, 0);
        ruleFault("leap 0+-1", 7, 0);
        ruleFault("leap [1]", 5, 0);
        words();
        // 99999 * 99999 * 99999 * 99999 * 99999 goes round to -337012131482191585
        says("/ is towards 0, % its rest, both 0 by 0; all goes round in 64 bits.");
        String below = "99999*99999*99999*99999*99999";
        holds(below + "<0", 1);
        holds(below + "/2*2-" + below + "=1", 1);
        holds("1+" + below + "%2=0", 1);
        holds("7/2=3", 1);
        holds("5/0=0", 1);
        holds("5%0=0", 1);
        holds("0/5=0", 1);
        says("Blanks (32) stand between as one likes.");
        T.due("blanks", 1, Told.lane(new LeapLane(), "  lane  2 ;  child 5   9 3  "));
        T.due("no blanks", 1, Told.lane(new LeapLane(), "lane2;child5 9 3"));
        goodRule(" leap  1  if  [  not  1  <=  2  ]  ");
        goodRule("leap1if[not1<=2]");
        laneFault("lane\t2", 4, 0);
        ruleFault("leap 1 if 1 < = 2", 14, 0);
        ruleFault("le ap 1", 0, 0);
    }

    private static void words() {
        says("WORDS (small letters, as far as these go on) of a CHILD who CAN: child, place (how many are ahead of them),"
            + " back, leap, breath, over (how many backs they can leap now), leapt (how many backs they LEAPT so far),"
            + " many (how many CHILDREN there are), can (how many CAN now), turn.");
        LeapLane x = Told.of(FOUR,
            "leap 1 if child=3 and place=3 and back=9 and leap=5 and breath=5 and over=1 and leapt=0 and many=4 and can=2"
            + " and turn=0",
            "leap 1 if child=1 and place=1 and back=8 and leap=6 and breath=2 and over=1 and leapt=0 and many=4 and can=1"
            + " and turn=1",
            "leap 1 if child=3 and place=2 and breath=5 and leapt=1 and over=1 and can=2 and turn=2");
        // 1234: 3 leaps 2; 1243: 1 leaps 0; 2143: 3 leaps 0, while 0 could leap 1
        for (int i = 0; i < 3; i++) {
            x.force(i);
            T.due("by all WORDS, TURN " + i, i == 1 ? 1 : 3, x.turn());
        }
        T.due("over two backs", 2, forced("lane 3;child 1 1 1;child 1 1 1;child 1 1 1", "leap 1 if over=2").turn());
        // CHILD 2 stands behind 1, whom they can't leap
        T.due("of those alone who CAN", -2, forced(FOUR, "leap 1 if child=2").turn());
        ruleFault("leap places", 5, 0);
        ruleFault("leap Place", 5, 0);
        ruleFault("leap placE", 5, 0);
        ruleFault("leap lane", 5, 0);
        ruleFault("leap if", 5, 0);
    }

    // ---- I: FAULTS

    private static void limits() {
        says("[ and not lie within one another 10 deep at most;");
        goodRule("leap 1 if " + "[".repeat(10) + "1<2" + "]".repeat(10));
        goodRule("leap 1 if " + "not ".repeat(10) + "1<2 and " + "not ".repeat(10) + "1<2");
        goodRule("leap 1 if " + "not [".repeat(5) + "1<2" + "]".repeat(5) + " or [1<2]");
        ruleFault("leap 1 if " + "not [".repeat(5) + "[1<2" + "]".repeat(6), 35, 2);
        says("at most 60 VALUES (of SUMS) and FACTS made of a SIGN, together.");
        // 1 and 57 VALUES, 2 more and a FACT with a SIGN; what not and brackets make counts nothing
        goodRule("leap 1" + "+1".repeat(56) + " if 1<2");
        goodRule("leap 1" + "+1".repeat(56) + " if not [not [1<2]]");
        goodRule("leap 1" + "+1".repeat(59));
        ruleFault("leap 1" + "+1".repeat(57) + " if 1<2", 126, 3);
        goodRule("leap 1" + ";leap 1 if 1<2".repeat(11) + "+1".repeat(15));
        ruleFault("leap 1" + ";leap 1 if 1<2".repeat(11) + "+1".repeat(16), 191, 3);
    }

    private static void faults() {
        says("FAULTS, the first along the text, 1 + 8 * its place and:");
        laneFault("lane 9;child 99 1 1;;", 5, 1);
        laneFault("x" + " ".repeat(399), 0, 0);
        laneFault("lane 1" + " ".repeat(393) + "x", 399, 0);
        ruleFault("leap 1 if 123456 = x", 10, 1);
        says("0 a byte or WORD that can't stand there, or the end (behind the last byte);");
        laneFault("", 0, 0);
        laneFault("   ", 3, 0);
        laneFault("lane", 4, 0);
        laneFault("lanes 1", 0, 0);
        laneFault("lane 1,child 1 1 0", 6, 0);
        laneFault("lane 1;leap 1", 7, 0);
        laneFault("lane 1\u00e9", 6, 0);
        ruleFault("leap 1 if [1<2", 14, 0);
        ruleFault("leap 1 if 1<2]", 13, 0);
        ruleFault("leap 1 and 1<2", 7, 0);
        ruleFault("leap 1 if 1<2<3", 13, 0);
        says("1 a NUMBER of more digits, or not as told;");
        laneFault("lane 000001", 5, 1);
        laneFault("lane 1;child 1 21 1", 15, 1);
        ruleFault("leap 000000", 5, 1);
        ruleFault("leap 1+ 123456 ", 8, 1);
        says("2 too deep (at the sign that opens, or the word not);");
        ruleFault("leap 1 if " + "[".repeat(11) + "1<2", 20, 2);
        ruleFault("leap 1 if " + "not ".repeat(11) + "1<2", 50, 2);
        ruleFault("leap 1 if " + "[".repeat(10) + " not 1<2", 21, 2);
        says("3 one VALUE or FACT too many (at its first byte; of a FACT at its SIGN);");
        ruleFault("leap 1" + "+1".repeat(59) + "+ place", 126, 3);
        ruleFault("leap 1" + "+1".repeat(58) + " if 1 >= 2", 128, 3);
        says("4 one CLAUSE too many, a second lane, another CLAUSE ahead of it, an eighth CHILD (at its first byte).");
        ruleFault("leap 1" + ";leap 1".repeat(11) + "; leap 1", 85, 4);
        laneFault("lane 1; lane 1", 8, 4);
        laneFault(" child 1 1 0", 1, 4);
        laneFault("lane 1" + ";child 1 1 0".repeat(7) + "; child", 92, 4);
        laneFault("lane 1" + ";child 1 1 0".repeat(7) + "; lane", 92, 4);
        says("Of one place the least.");
        laneFault("lane 1" + ";child 1 1 0".repeat(7) + "; chil", 92, 0);
        ruleFault("leap 1" + ";leap 1".repeat(11) + "; child 1", 85, 0);
        ruleFault("leap 1" + "+1".repeat(59) + "+ 123456", 126, 1);
        ruleFault("leap 1" + "+1".repeat(59) + "+ not", 126, 0);
    }

    // ---- II

    private static void canLeap() {
        says("==== II. A CHILD can leap k backs, if the k CHILDREN directly ahead of them have no BACK higher than their"
            + " LEAP, k from 1 to SPRING: they are directly ahead of these then.");
        LeapLane x = Told.of("lane 2;child 1 1 0;child 5 1 0;child 3 1 0;child 4 1 0;child 1 4 9");
        T.due("by SPRING", 2, x.child(4, 4));
        T.due("a third back", NONE, x.leap(4, 3));
        T.due("no back", NONE, x.leap(4, 0));
        T.due("two backs", 2, x.leap(4, 2));
        T.due("directly ahead of these then", 12534, x.order());
        T.due("a BACK higher than their LEAP", 0, x.child(4, 4));
        x.stoop(1, 4);
        T.due("and one as high", 2, x.child(4, 4));
        says("One CAN, if they can leap one back and have BREATH.");
        T.due("CHILD 4", 1 << 4, x.count(5));
        // FOUR: 0 is first, 2 can't leap 1
        LeapLane four = Told.of(FOUR);
        T.due("CHILDREN 1 and 3 of FOUR", 0b1010, four.count(5));
        T.due("nobody has BREATH", 0, Told.of(FREE).count(5));
    }

    private static void whoLeaps() {
        says("A TURN: (1) of those who CAN that one leaps for whom the SUM of the RULE IN FORCE's first CLAUSE without a"
            + " TEST, or whose TEST holds (0 without), is greatest, if it is above 0, of several the least CHILD (none, if"
            + " none is such); without a RULE the one farthest back.");
        T.due("the greatest", 3, forced(FOUR, "leap child").turn());
        T.due("the greatest", 1, forced(FOUR, "leap 9-child").turn());
        T.due("of several the least CHILD", 1, forced(FOUR, "leap 7").turn());
        T.due("it is not above 0", -2, forced(FOUR, "leap 0").turn());
        T.due("it is not above 0", -2, forced(FOUR, "leap 0-child").turn());
        T.due("one alone is above 0", 3, forced(FOUR, "leap child-2").turn());
        T.due("the first CLAUSE whose TEST holds", 3, forced(FOUR, "leap 2 if child=1;leap 3 if child>0;leap 9").turn());
        T.due("the first CLAUSE without a TEST", 1, forced(FOUR, "leap 4 if child=1;leap 3;leap 9 if child=3").turn());
        T.due("0 without", -2, forced(FOUR, "leap 9 if child=0;leap 9 if child=2").turn());
        T.due("0 without, for one of them", 3, forced(FOUR, "leap 1 if child=3").turn());
        T.due("without a RULE", 3, Told.of(FOUR).turn());
        LeapLane last = Told.of(FOUR);
        last.front(3);
        T.due("without a RULE, 4123: 1 leaps 0; 2 can't leap 1", 1, last.turn());
        T.due("nobody CAN", -2, Told.of(FREE).turn());
    }

    private static void whatATurnDoes() {
        says("They leap as many backs as they can, have as many more LEAPT (999 at most) and 1 BREATH less.");
        LeapLane x = Told.of("lane 2;child 2 1 0;child 5 1 0;child 3 1 0;child 4 1 0;child 1 4 9");
        x.turn();
        kid("two backs of two", x, 4, 1, 4, 8, 2, 0, 2);
        x.stoop(1, 4);
        x.turn();
        kid("two backs of two more", x, 4, 1, 4, 7, 0, 0, 4);
        T.due("all LEAPT", 4, x.count(7));
        // beyond 512 calls: nobody can come to 999 backs within them
        LeapLane most = Edges.leapt996();
        most.turn();
        T.due("999 at most", 999, most.child(6, 5));
        says("(2) All others have 1 BREATH more, but so no more than was told (as it is, if it is that or more).");
        LeapLane y = Told.of("lane 1;child 1 1 2;child 1 1 2;child 1 1 2", "leap 0");
        y.leap(2, 1);
        y.leap(2, 1);
        y.breath(0, 4);
        T.due("312: the last one leaps", 1, y.turn());
        kid("others have 1 more", y, 2, 1, 1, 1);
        kid("one who leapt has 1 less", y, 1, 1, 1, 1);
        kid("as it is, if it is more", y, 0, 1, 1, 6);
        y.force(0);
        y.turn();
        y.turn();
        kid("no more than was told", y, 2, 1, 1, 2);
        kid("nobody leaps: all others are all", y, 1, 1, 1, 2);
        says("TURN is 1 more (999 at most by hand; TURNS that are asked go on beyond).");
        T.due("TURN", 3, y.count(4));
        // beyond 512 calls
        LeapLane z = Told.of(TWO, "leap 1 if turn > 998");
        z.force(0);
        for (int i = 0; i < 999; i++) {
            z.turn();
        }
        T.due("TURN 999", 999, z.count(4));
        T.due("no TURN more by hand", NONE, z.turn());
        T.due("TURN 999 still", 999, z.count(4));
        T.due("TURNS that are asked", 3, z.ahead(0, 3, 2));
        T.due("TURN 1000", 1000, z.leads(0));
    }

    private static void acts() {
        says("ACTS: a TURN;");
        LeapLane x = Told.of(FOUR);
        x.turn();
        T.due("it can be UNDONE", 1, x.count(9));
        says("LEAP (one who CAN leaps k backs that they can, has k more LEAPT and 1 BREATH less, as in (1); TURN stays,"
            + " nobody gets BREATH);");
        LeapLane y = Told.of("lane 3;child 1 1 1;child 1 1 1;child 1 1 9;child 1 9 2");
        y.leap(3, 2);
        T.due("ORDER", 1423, y.order());
        kid("k more LEAPT, 1 BREATH less", y, 3, 1, 9, 1, 1, 1, 2);
        T.due("TURN stays", 0, y.count(4));
        y.leap(1, 2);
        T.due("ORDER", 2143, y.order());
        kid("nobody gets BREATH", y, 3, 1, 9, 1);
        y.leap(3, 1);
        y.front(0);
        T.due("one without BREATH can't", NONE, y.leap(3, 1));
        says("STOOP (a CHILD has another BACK, 1 to 20);");
        T.due("STOOP", 1, y.stoop(0, 20));
        kid("another BACK", y, 0, 20);
        T.due("standing higher, too", 20, y.stoop(0, 1));
        T.due("no other BACK", NONE, y.stoop(0, 1));
        T.due("BACK 21", NONE, y.stoop(0, 21));
        says("BREATH (a CHILD has 1 to 9 more, 60 at most);");
        T.due("1 more", 2, y.breath(0, 1));
        T.due("9 more", 11, y.breath(0, 9));
        for (int more = 20; more <= 56; more += 9) {
            T.due("9 more", more, y.breath(0, 9));
        }
        T.due("60 at most", 60, y.breath(0, 9));
        says("FRONT (a CHILD who is not is first, all who were ahead are one behind).");
        LeapLane z = Told.of(FOUR);
        T.due("FRONT", 2, z.front(2));
        T.due("one behind", 3124, z.order());
        T.due("who is first already", NONE, z.front(2));
        undone();
    }

    private static void undone() {
        says("The last 20 can be UNDONE, the last first.");
        LeapLane x = Told.of(FOUR);
        for (int i = 0; i < 21; i++) {
            x.breath(0, 1);
        }
        T.due("20 of 21", 20, x.count(9));
        for (int left = 19; left >= 0; left--) {
            T.due("UNDONE", left, x.undo());
            T.due("the last first", 4 + left, x.child(0, 2));
        }
        T.due("none can", NONE, x.undo());
        LeapLane y = Told.of(FOUR);
        y.turn();
        y.leap(1, 1);
        y.stoop(0, 1);
        y.front(2);
        T.due("a FRONT", 3, y.undo());
        T.due("ORDER", 2143, y.order());
        T.due("a STOOP", 2, y.undo());
        kid("BACK", y, 0, 5);
        T.due("a LEAP", 1, y.undo());
        kid("as it was", y, 1, 8, 6, 2, 1, 1, 0);
        T.due("a TURN", 0, y.undo());
        kid("as it was", y, 3, 9, 5, 5, 3, 1, 0);
        counts("as it was", y, 2, 4, 0, NONE, 0, 0b1010, 0, 0);
    }

    // ---- III: by leaps alone

    private static void byLeapsAlone() {
        says("==== III. BY LEAPS ALONE (of any k from 1 to SPRING that one can, whatever the BREATH; by what is asked nothing"
            + " changes): an ORDER is told as a number of digits, of each CHILD its number and 1, the first CHILD first (0"
            + " without CHILDREN).");
        LeapLane x = Told.of(ONE_STAYS);
        LeapLane free = Told.of(FREE);
        T.due("any k, one without BREATH", 1, free.fewest(312));
        T.due("ORDER", 123, x.order());
        T.due("ORDER without CHILDREN", 0, Told.of("lane 1").order());
        says("FEWEST to an ORDER: how many LEAPS.");
        int[][] fewest = {{123, 0}, {132, 1}, {312, 2}, {213, -2}, {231, -2}, {321, -2}};
        for (int[] due : fewest) {
            T.due("FEWEST to " + due[0], due[1], x.fewest(due[0]));
        }
        says("STEP i of it: of all rows of so many LEAPS that lead there the first (by who leaps, then by how many backs,"
            + " of the first LEAP, then of the others), its i-th LEAP: who; how many backs.");
        // to 321 CHILD 1 leaps 0, then 2 leaps both; or 2 leaps both, then 1 leaps 0
        T.due("who", 1, free.step(321, 0, 0));
        T.due("how many backs", 1, free.step(321, 0, 1));
        T.due("who", 2, free.step(321, 1, 0));
        T.due("how many backs", 2, free.step(321, 1, 1));
        // to 4123 CHILD 3 leaps one back, then two; or two, then one
        LeapLane four = Told.of(FREE + ";child 1 20 0");
        T.due("fewer backs first", 1, four.step(4123, 0, 1));
        T.due("then two", 2, four.step(4123, 1, 1));
        says("ORDERS within n LEAPS (0 to 30): how many there are that can be reached by n LEAPS at most, this one, too.");
        int[] orders = {1, 2, 3, 3};
        for (int n = 0; n < 4; n++) {
            T.due("ORDERS within " + n, orders[n], x.orders(n));
        }
        T.due("ORDERS within 30", 3, x.orders(30));
        says("FARTHEST: of all ORDERS that can be reached that to which FEWEST is most, of several the least number: how"
            + " many; the ORDER.");
        T.due("how many", 2, x.farthest(0));
        T.due("the ORDER", 312, x.farthest(1));
        T.due("how many, of 231 and 321", 2, free.farthest(0));
        T.due("of several the least number", 231, free.farthest(1));
        byLeapsAloneOfAChild(x, free);
    }

    private static void byLeapsAloneOfAChild(LeapLane x, LeapLane free) {
        says("FIRST of a CHILD: the fewest LEAPS by which they are first.");
        T.due("who is first", 0, x.first(0));
        T.due("who never is", -2, x.first(1));
        T.due("by two LEAPS", 2, x.first(2));
        T.due("by one of two backs", 1, free.first(2));
        says("BEHIND: of a CHILD all others who are ahead of them in all ORDERS that can be reached (in this one, too), as"
            + " bits.");
        T.due("of CHILD 0", 0, x.behind(0));
        T.due("of CHILD 1", 1, x.behind(1));
        T.due("of CHILD 2", 0, x.behind(2));
        says("SOURCES: how many ORDERS there are from which one LEAP leads to this one.");
        T.due("213, by CHILD 0; 1 can't leap 2", 1, x.sources());
        T.due("213, 231 and 132", 3, free.sources());
        counts("nothing changes", x, 1, 3, 0, NONE, 0, 0, 0, 0, 0, 0, 0, 0);
        T.due("nothing changes", 123, x.order());
    }

    // ---- III: how it goes on

    private static void goesOn() {
        says("(TURNS go on by the RULE IN FORCE in what follows.)");
        LeapLane ruled = forced(TWO, "leap 1 if turn = 2");
        T.due("nobody leaps by the RULE", 12, ruled.ahead(0, 2, 0));
        T.due("CHILD 1 leaps by it", 21, ruled.ahead(0, 3, 0));
        says("AHEAD n TURNS (0 to 100): the ORDER; BREATH of a CHILD; how many backs all LEAPT.");
        LeapLane x = Told.of(FOUR);
        // 3 leaps 2, 1 leaps 0, 3 leaps 0, 2 leaps 0, 0 leaps 2 and 3
        int[] orders = {1234, 1243, 2143, 2413, 2431, 2143};
        int[] leapt = {0, 1, 2, 3, 4, 6};
        int[] breath = {5, 4, 5, 4, 5, 5};
        for (int n = 0; n < 6; n++) {
            T.due("ORDER ahead " + n, orders[n], x.ahead(0, n, 0));
            T.due("BREATH of CHILD 3 ahead " + n, breath[n], x.ahead(3, n, 1));
            T.due("all LEAPT ahead " + n, leapt[n], x.ahead(0, n, 2));
        }
        T.due("AHEAD 100", 100, Told.of(TWO).ahead(0, 100, 2));
        says("LEADS of a CHILD: the first TURN, this one the first, of 200, behind which they are first.");
        T.due("CHILD 0, behind TURN 0", 0, x.leads(0));
        T.due("CHILD 1, behind TURN 1", 1, x.leads(1));
        T.due("CHILD 3 never", -2, x.leads(3));
        T.due("of 200 the last", 199, forced(TWO, "leap 1 if turn = 199").leads(1));
        T.due("one later", -2, forced(TWO, "leap 1 if turn = 200").leads(1));
        says("STUCK: the first TURN, this one the first, of 200, in which nobody leaps.");
        // CHILD 1 leaps 0 in TURN 0, then nobody has BREATH behind another
        T.due("in TURN 1", 1, Told.of("lane 1;child 5 1 0;child 1 5 1").stuck());
        T.due("this one", 0, Told.of(FREE).stuck());
        T.due("of 200 the last", 199, forced(TWO, "leap 1 if turn < 199").stuck());
        T.due("one later", -2, forced(TWO, "leap 1 if turn < 200").stuck());
        x.turn();
        T.due("CHILD 0, behind TURN 1, no more", 1, inTurnOne(TWO).leads(0));
        given();
    }

    /** That LANE in TURN 1. */
    private static LeapLane inTurnOne(String lane) {
        LeapLane x = Told.of(lane);
        x.turn();
        return x;
    }

    private static void given() {
        says("GIVEN n TURNS (1 to 40): the CHILD to whom 5 BREATH more (60 at most) had best be given now, or nobody, so"
            + " that all have LEAPT most backs, together, then; of several nobody, then the least: who; how many.");
        // 1 leaps 0 in TURN 0; 0 leaps 1 in TURN 1, if given BREATH; then 1, who got theirs back, leaps 0
        LeapLane x = Told.of("lane 1;child 1 1 0;child 1 1 1");
        T.due("1 TURN: nobody", NONE, x.given(1, 0));
        T.due("1 TURN: how many", 1, x.given(1, 1));
        T.due("3 TURNS: CHILD 0", 0, x.given(3, 0));
        T.due("3 TURNS: how many", 3, x.given(3, 1));
        T.due("41 TURNS", -2, x.given(41, 0));
        LeapLane free = Told.of(FREE);
        // either leaps in the one TURN, CHILD 2 over two backs
        T.due("FREE: CHILD 2", 2, free.given(1, 0));
        T.due("FREE: how many", 2, free.given(1, 1));
        T.due("of several the least", 1, Told.of(FREE.replace("lane 2", "lane 1")).given(1, 0));
        // the last two of seven could LEAP five times, with 5 BREATH
        LeapLane seven = Told.of("lane 1" + ";child 1 1 0".repeat(7));
        T.due("of seven CHILD 5", 5, seven.given(40, 0));
        T.due("5 BREATH more", 5, seven.given(40, 1));
        LeapLane most = forced(TWO, "leap 1 if breath = 60;leap 1 if breath > 60");
        for (int i = 0; i < 6; i++) {
            most.breath(1, 9);
        }
        T.due("59", 59, most.child(1, 2));
        T.due("60 at most", 1, most.given(1, 0));
        T.due("one LEAP by it", 1, most.given(2, 1));
    }

    private static void leapsAndBacks() {
        says("LEAPS of a CHILD: numbers 1 to 20 as LEAP, in place of what the text told, so that from the begin on, by the"
            + " RULE IN FORCE, all else as the text told it, all NOTES are so, as bits.");
        LeapLane x = Told.of("lane 1;child 5 9 3;child 7 9 3", "leap 1 if leap > 6");
        T.due("without NOTES all", ALL_NUMBERS, x.leapsOf(1));
        x.turn();
        x.stoop(0, 20);
        x.note(0, 1);
        T.due("5 to 20", ALL_NUMBERS & ~0x1f, x.leapsOf(1));
        T.due("whatever CHILD 0 leaps", ALL_NUMBERS, x.leapsOf(0));
        x.force(0);
        T.due("7 to 20, by the RULE", ALL_NUMBERS & ~0x7f, x.leapsOf(1));
        x.note(1, 0);
        T.due("of CHILD 0 7 to 20", ALL_NUMBERS & ~0x7f, x.leapsOf(0));
        x.note(0, 0);
        T.due("none", 0, x.leapsOf(0));
        says("BACKS of a CHILD: likewise as BACK.");
        T.due("none", 0, x.backsOf(0));
        x.note(NONE, 0);
        T.due("without NOTES all", ALL_NUMBERS, x.backsOf(0));
        x.note(0, 1);
        T.due("of CHILD 0 1 to 9, whom CHILD 1 leapt", 0x3fe, x.backsOf(0));
        x.note(1, 1);
        T.due("of CHILD 1 10 to 20, whom CHILD 0 did not leap", ALL_NUMBERS & ~0x3ff, x.backsOf(1));
    }

    private static void rests() {
        says("RESTS of two CHILDREN for n TURNS (1 to 20): each has BACK 5, 10, 15 or 20 from now on: each has by how much"
            + " LEAPT (999 at most, as else) is more then than now, twice, less how many are ahead of them then: twos of"
            + " which neither would have more by another one: how many; the first (by the first one, then the second one).");
        // 1 leaps 0 with a BACK of 5 or 10 (2 and -1); else nobody does (-1 and 0): 0 stands with 15 or 20
        LeapLane x = Told.of("lane 1;child 10 10 1;child 10 10 1");
        T.due("how many", 8, x.rests(0, 1, 1, 0));
        T.due("the first of CHILD 0", 15, x.rests(0, 1, 1, 1));
        T.due("the first of CHILD 1", 5, x.rests(0, 1, 1, 2));
        T.due("CHILD 1 as the first one", 5, x.rests(1, 0, 1, 1));
        T.due("CHILD 0 as the second one", 15, x.rests(1, 0, 1, 2));
        // two TURNS: 0 leaps back if both have 5 or 10 (2 and 1), but then 1 stands higher (-1 and 2), then 0 (0 and -1)
        T.due("two TURNS: both 15 or 20", 4, x.rests(0, 1, 2, 0));
        T.due("two TURNS, the first", 15, x.rests(0, 1, 2, 1));
        T.due("two TURNS, the first", 15, x.rests(0, 1, 2, 2));
        // with 5 or 10 CHILD 0 is leapt by 1, 2 and 3, then leaps 3: twice 1 less 2 ahead; else nobody leaps: 0 as well
        LeapLane y = forced("lane 1;child 5 20 1;child 11 10 1;child 11 10 1;child 11 10 1",
            "leap 1 if child > 0 and turn < 3;leap 1 if child = 0 and turn = 3");
        T.due("all are as good", 16, y.rests(0, 3, 4, 0));
        T.due("three TURNS: 15 or 20, not to be leapt", 8, y.rests(0, 3, 3, 0));
        T.due("the first", 15, y.rests(0, 3, 3, 1));
        T.due("the first", 5, y.rests(0, 3, 3, 2));
    }

    private static void alike() {
        says("ALIKE: the first TURN, this one the first, of 60, at whose begin the ORDER and BREATH of all are as at the begin"
            + " of a later one, 60 TURNS from now at most; how much later the first such is.");
        // 12 with breath 5 5; 21 with 5 4; 12 with 4 5; 21 with 5 4
        LeapLane x = Told.of(TWO);
        T.due("TURN 1", 1, x.alike(0));
        T.due("2 later", 2, x.alike(1));
        x.turn();
        T.due("TURN 1, this one", 1, x.alike(0));
        x.turn();
        T.due("TURN 2, this one", 2, x.alike(0));
        // nobody told any breath: it goes down LEAP by LEAP, until nobody leaps
        LeapLane y = forced("lane 1;child 1 1 0;child 1 1 0", "leap 1 if turn < 59");
        LeapLane z = forced("lane 1;child 1 1 0;child 1 1 0", "leap 1 if turn < 60");
        for (int i = 0; i < 14; i++) {
            y.breath(i / 7, 9);
            z.breath(i / 7, 9);
        }
        T.due("TURN 59, as TURN 60", 59, y.alike(0));
        T.due("1 later", 1, y.alike(1));
        T.due("TURN 60, as TURN 61", -2, z.alike(0));
    }

    private static void pence() {
        says("PENCE (0 to 9999) among CHILDREN by backs they LEAPT: each the part downwards; what is left, one each, to those"
            + " whose part lost most by that, of several the least first (nothing, if nobody has).");
        LeapLane x = Told.of("lane 2;child 1 20 9;child 1 20 9;child 1 20 9");
        T.due("nobody has", 0, x.pence(9999, 0));
        x.leap(1, 1);
        x.leap(2, 2);
        x.leap(0, 1);
        // 1 : 1 : 2 of 7 are 1 and 3 quarters, as much, and 3 and a half
        int[][] due = {{7, 2, 2, 3}, {8, 2, 2, 4}, {5, 1, 1, 3}, {6, 2, 1, 3}, {1, 0, 0, 1}, {0, 0, 0, 0},
            {9999, 2500, 2500, 4999}};
        for (int[] row : due) {
            for (int child = 0; child < 3; child++) {
                T.due("pence(" + row[0] + ", " + child + ")", row[child + 1], x.pence(row[0], child));
            }
        }
    }

    // ---- III: NOTES, RULED, LOOK

    private static void notes() {
        says("NOTES 0 to 9, told: behind the n-th TURN of all (0 to 60) a CHILD was first.");
        // who is first behind TURN 0, 1 ..: by none 1 0 1 0; by RULE 0: 0 0 0 0; by 1: 1 0 1 0; by 2: 0 1 0 1
        LeapLane x = Told.of(TWO, "leap 0", "leap 1", "leap 1 if turn > 0");
        for (int many = 1; many <= 10; many++) {
            T.due("a NOTE", many, x.note(0, 0));
        }
        T.due("an eleventh", -2, x.note(0, 0));
        says("RULED: which of the RULES, and of none, so that from the begin on, all as the text told it, all NOTES are so:"
            + " how many; the first (none ahead of 0, told as NONE).");
        x.turn();
        x.stoop(0, 20);
        T.due("RULES 0 and 2", 2, x.ruled(0));
        T.due("the first", 0, x.ruled(1));
        says("LOOK: the TURN (0 to 60) behind which these part best by who is first: the most alike are fewest, of several"
            + " the least; how many.");
        T.due("behind TURN 1 they part", 1, x.look(0));
        T.due("one each", 1, x.look(1));
        x.note(NONE, 0);
        T.due("all", 4, x.ruled(0));
        T.due("none ahead of 0", NONE, x.ruled(1));
        T.due("two and two behind TURN 0", 0, x.look(0));
        T.due("two and two", 2, x.look(1));
        x.note(60, 1);
        x.note(0, 1);
        T.due("none and RULE 1: TURN 60 is as TURN 0", 2, x.ruled(0));
        T.due("they never part", 0, x.look(0));
        T.due("two", 2, x.look(1));
        T.due("a NOTE of TURN 61", -2, x.note(61, 1));
    }

    // ---- III: DRAWS and IMAGES

    private static void draws() {
        says("DRAWS: x (0 to 2147483647; 0 at first) becomes x * 1103515245 + 12345, of 2147483648 the rest; a DRAW is x /"
            + " 65536.");
        LeapLane x = Told.of(TWO);
        T.due("0 at first", 0, x.count(10));
        says("STUMBLES m times (1 to 10) n TURNS (1 to 60) from now on: ahead of each a DRAW mod 100: is it below p (0 to"
            + " 100), and are there CHILDREN, a DRAW mod how many: that one has no BREATH then: how many backs all have"
            + " LEAPT at the end; how many times CHILD 0 is first at the end, all together (nothing stays; x as it was).");
        // from 0 on: 0, 21468, 9988, 22117, 3498, 16927, 16045, 19741
        T.due("0 is not below 0: 1 leaps", 1, x.stumbles(1, 1, 0, 0));
        T.due("0 is below 1: 21468 is CHILD 0, who leaps behind it", 2, x.stumbles(1, 2, 1, 0));
        T.due("CHILD 0 is first", 1, x.stumbles(1, 2, 1, 1));
        // TURN 0: CHILD 0 stumbles, 1 leaps. TURN 1: 22117 is CHILD 1, 0 leaps. TURN 2: 16927 is CHILD 1: nobody
        T.due("all stumble", 2, x.stumbles(1, 3, 100, 0));
        // the second game goes on with the DRAWS: CHILD 1 stumbles in both TURNS
        T.due("two games: 1 leaps and 0 leaps, then nobody", 2, x.stumbles(2, 2, 100, 0));
        T.due("CHILD 0 is first in both", 2, x.stumbles(2, 2, 100, 1));
        // from 2147483647 on: 15929, 4409: 29, and CHILD 1
        x.seed(2147483647);
        T.due("29 is not below 29", 0, x.stumbles(1, 1, 29, 1));
        T.due("29 is below 30: CHILD 1 stumbles", 1, x.stumbles(1, 1, 30, 1));
        counts("nothing stays", x, 1, 2, 0, NONE, 0, 2, 0, 0, 0, 0, 2147483647);
        kid("nothing stays", x, 1, 1, 1, 5, 1, 1, 0);
        T.due("no CHILDREN", 0, Told.of("lane 1").stumbles(10, 60, 100, 1));
    }

    private static void images() {
        says("IMAGES 0 to 3: all but the TAPE and the RULES, as it is (the RULE IN FORCE, too); gone back to, it is as it was"
            + " (these stay; nothing can be UNDONE then).");
        LeapLane x = Told.of(FOUR, "leap child");
        x.turn();
        x.stoop(0, 7);
        x.note(3, 1);
        x.seed(5);
        x.force(0);
        T.due("IMAGE 0", 1, x.image(0));
        Told.lane(x, TWO);
        Told.rule(x, "leap 1");
        x.force(1);
        x.seed(6);
        x.note(1, 1);
        x.note(2, 1);
        T.due("IMAGE 3", 0, x.image(3));
        x.turn();
        Told.put(x, "lane 1");
        T.due("gone back to", 1, x.back(0));
        counts("as it was, but TAPE and RULES", x, 2, 4, 2, 0, 1, 0, 0, 1, 1, 0, 5, 6);
        T.due("ORDER", 1243, x.order());
        kid("as it was", x, 0, 7, 9, 3, 0, 0, 0);
        kid("as it was", x, 3, 9, 5, 4, 2, 0, 1);
        T.due("nothing can be UNDONE", NONE, x.undo());
        T.due("gone back to the other", 0, x.back(3));
        counts("as it was", x, 1, 2, 2, 1, 0, 2, 0, 0, 2, 0, 6, 6);
        T.due("IMAGE 4", NONE, x.image(4));
        says("The constants: `NONE = -1`: None.");
        T.due("NONE", -1, NONE);
    }

    // ---- promises 1 to 14

    private static void promisesOfTexts() {
        says("`LeapLane()`: No LANE, no RULES, none IN FORCE.");
        LeapLane x = new LeapLane();
        T.due("no LANE", NONE, x.order());
        counts("new", x, 0, 0, 0, NONE, 0, 0, NONE, 0, 0, 0, 0, 0, NONE);
        says("`int feed(int a, int b, int c, int d, int e)`: Twenty bytes come behind the TAPE, of each number the highest"
            + " first: how many it has; NONE, and none comes, if it would have more than 400.");
        T.due("'leap leap + 1 * 2 -' and 0", 20, x.feed(0x6c656170, 0x206c6561, 0x70202b20, 0x31202a20, 0x32202d00));
        T.due("its FAULT is the byte 0", -2 - (1 + 8 * 19), x.rule());
        for (int many = 20; many <= 400; many += 20) {
            T.due("feed", many, x.feed(many, 0, 0, 0, 0));
        }
        T.due("more than 400", NONE, x.feed(0, 0, 0, 0, 0));
        T.due("none comes", 400, x.count(11));
        says("`int end(int n)`: The TAPE has its first n bytes alone: n; NONE, and nothing happens, if it has not so many, or"
            + " n is below 0.");
        T.due("not so many", NONE, x.end(401));
        T.due("below 0", NONE, x.end(-1));
        T.due("381 alone", 381, x.end(381));
        T.due("more than 400", NONE, x.feed(0, 0, 0, 0, 0));
        T.due("as many as it has", 381, x.end(381));
        T.due("none", 0, x.end(0));
        promiseLane();
        promisesRuleAndForce();
    }

    private static void promiseLane() {
        says("`int lane()`: The TAPE, which is empty then, is the LANE in place of the one there was (no NOTES, nothing to be"
            + " UNDONE; the RULE IN FORCE and x stay): how many CHILDREN; -2 - its FAULT, and all stays.");
        LeapLane x = forced(FOUR, "leap 1");
        x.turn();
        x.note(0, 1);
        x.seed(8);
        T.due("a FAULT", -2 - (1 + 8 * 13 + 1), Told.lane(x, "lane 3;child 0 1 1"));
        counts("all stays, the TAPE is empty", x, 2, 4, 1, 0, 1, 0b1101, 1, 1, 1, 1, 8, 0);
        T.due("all stays", 2134, x.order());
        T.due("all stays as it was told", ALL_NUMBERS & ~0x1f, x.leapsOf(1));
        T.due("CHILDREN", 2, Told.lane(x, TWO));
        counts("in its place", x, 1, 2, 1, 0, 0, 2, 0, 0, 0, 0, 8, 0);
        T.due("nothing to be UNDONE", NONE, x.undo());
    }

    private static void promisesRuleAndForce() {
        says("`int rule()`: The TAPE, which is empty then, is a RULE: its number; -2 - its FAULT; NONE, and nothing happens:"
            + " there are 6.");
        LeapLane x = new LeapLane();
        T.due("a FAULT", -2 - (1 + 8 * 4), Told.rule(x, "leap"));
        counts("no RULE, an empty TAPE", x, 0, 0, 0, NONE, 0, 0, NONE, 0, 0, 0, 0, 0);
        for (int number = 0; number < 6; number++) {
            T.due("its number", number, Told.rule(x, "leap 1"));
            T.due("an empty TAPE", 0, x.count(11));
        }
        T.due("there are 6", NONE, Told.rule(x, "leap 1"));
        T.due("nothing happens", 6, x.count(11));
        says("`int force(int rule)`: A RULE is IN FORCE (NONE: none): which was; -2, and nothing happens, if there is none"
            + " such.");
        T.due("none was", NONE, x.force(5));
        T.due("RULE 6", -2, x.force(6));
        T.due("RULE -2", -2, x.force(-2));
        T.due("5 was", 5, x.force(NONE));
        T.due("none is", NONE, x.count(3));
    }

    private static void promisesOfActs() {
        says("`int child(int child, int what)`: Of a CHILD what 0: BACK, 1: LEAP, 2: BREATH, 3: place, 4: how many backs they"
            + " can leap now (whatever the BREATH), 5: how many they LEAPT. NONE without these.");
        LeapLane x = Told.of("lane 2;child 5 9 3;child 8 6 2;child 4 9 0");
        kid("of CHILD 2", x, 2, 4, 9, 0, 2, 2, 0, NONE);
        T.due("what -1", NONE, x.child(2, -1));
        T.due("CHILD 3", NONE, x.child(3, 0));
        T.due("CHILD -1", NONE, x.child(-1, 0));
        says("`int order()`: The ORDER; NONE without a LANE.");
        T.due("the ORDER", 123, x.order());
        T.due("without a LANE", NONE, new LeapLane().order());
        says("`int turn()`: A TURN: who leaps (-2: nobody); NONE, and nothing happens, without a LANE, or in TURN 999.");
        T.due("who leaps", 1, x.turn());
        T.due("nobody", -2, Told.of("lane 1").turn());
        T.due("without a LANE", NONE, new LeapLane().turn());
        says("`int leap(int child, int backs)`: LEAP: their place then; NONE, and nothing happens, without these.");
        T.due("no BREATH", NONE, Told.of("lane 2;child 5 9 3;child 4 9 0").leap(1, 1));
        T.due("their place", 0, x.leap(0, 1));
        T.due("who is first", NONE, x.leap(0, 1));
        T.due("two backs", 0, Told.of("lane 2;child 5 9 3;child 8 6 2;child 4 9 1").leap(2, 2));
        T.due("three backs", NONE, Told.of("lane 2;child 1 1 1;child 1 1 1;child 1 1 1;child 1 1 1").leap(3, 3));
        T.due("CHILD 3", NONE, x.leap(3, 1));
        says("`int stoop(int child, int back)`: STOOP: what BACK it was; NONE, and nothing happens, without these (another"
            + " one).");
        T.due("what BACK it was", 8, x.stoop(1, 1));
        T.due("not another one", NONE, x.stoop(1, 1));
        T.due("BACK 0", NONE, x.stoop(1, 0));
        T.due("CHILD 3", NONE, x.stoop(3, 1));
        says("`int breath(int child, int much)`: BREATH: how much then; NONE, and nothing happens, without these.");
        T.due("how much then", 8, x.breath(2, 8));
        T.due("0 more", NONE, x.breath(2, 0));
        T.due("10 more", NONE, x.breath(2, 10));
        T.due("CHILD 3", NONE, x.breath(3, 1));
        says("`int front(int child)`: FRONT: what their place was; NONE, and nothing happens, without these.");
        T.due("what their place was", 2, x.front(2));
        T.due("who is first", NONE, x.front(2));
        T.due("CHILD 3", NONE, x.front(3));
        says("`int undo()`: The last ACT is UNDONE: how many more can be; NONE, and nothing happens: none can.");
        for (int left = 4; left >= 0; left--) {
            T.due("how many more", left, x.undo());
        }
        T.due("none can", NONE, x.undo());
    }

    // ---- promises 15 to 25

    private static void promisesByLeapsAlone() {
        LeapLane none = new LeapLane();
        LeapLane x = Told.of(ONE_STAYS);
        says("`int fewest(int order)`: FEWEST; -2: it can't be reached; NONE: that is no ORDER of all CHILDREN, or there is no"
            + " LANE.");
        T.due("FEWEST", 2, x.fewest(312));
        T.due("it can't be reached", -2, x.fewest(321));
        int[] wrong = {0, 1, 12, 113, 124, 1234, 1123, -123};
        for (int order : wrong) {
            T.due("no ORDER: " + order, NONE, x.fewest(order));
        }
        T.due("no LANE", NONE, none.fewest(0));
        T.due("no CHILDREN", 0, Told.of("lane 1").fewest(0));
        says("`int step(int order, int i, int what)`: STEP i (from 0) of it what 0: who, 1: how many backs; -2: there is none"
            + " such (so many there are not, it can't be reached). NONE without these (an ORDER; i 0 or more).");
        T.due("STEP 1", 2, x.step(312, 1, 0));
        T.due("STEP 1", 1, x.step(312, 1, 1));
        T.due("STEP 2 of 2", -2, x.step(312, 2, 0));
        T.due("it can't be reached", -2, x.step(321, 0, 0));
        T.due("no ORDER", NONE, x.step(12, 0, 0));
        T.due("STEP -1", NONE, x.step(312, -1, 0));
        T.due("what 2", NONE, x.step(312, 0, 2));
        says("`int orders(int n)`: ORDERS; NONE without these, or a LANE.");
        T.due("ORDERS", 3, x.orders(30));
        T.due("within 31", NONE, x.orders(31));
        T.due("within -1", NONE, x.orders(-1));
        T.due("no LANE", NONE, none.orders(0));
        says("`int farthest(int what)`: FARTHEST what 0: how many, 1: the ORDER. NONE for others, or without a LANE.");
        T.due("what 2", NONE, x.farthest(2));
        T.due("without a LANE", NONE, none.farthest(0));
        says("`int first(int child)`: FIRST; -2: by none; NONE without that CHILD.");
        T.due("by none", -2, x.first(1));
        T.due("CHILD 3", NONE, x.first(3));
        says("`int behind(int child)`: BEHIND, as bits; NONE without that CHILD.");
        T.due("BEHIND", 1, x.behind(1));
        T.due("CHILD 3", NONE, x.behind(3));
        says("`int sources()`: SOURCES; NONE without a LANE.");
        T.due("SOURCES", 1, x.sources());
        T.due("without a LANE", NONE, none.sources());
    }

    private static void promisesOfGoingOn() {
        LeapLane none = new LeapLane();
        LeapLane x = Told.of(TWO);
        says("`int ahead(int child, int n, int what)`: AHEAD what 0: the ORDER, 1: BREATH, 2: how many (child is asked for the"
            + " second one alone). NONE without these, or a LANE.");
        T.due("the ORDER, whatever the child", 21, x.ahead(-9, 3, 0));
        T.due("BREATH", 4, x.ahead(1, 3, 1));
        T.due("how many, whatever the child", 3, x.ahead(9, 3, 2));
        T.due("BREATH of CHILD 2", NONE, x.ahead(2, 3, 1));
        T.due("101 TURNS", NONE, x.ahead(0, 101, 0));
        T.due("what 3", NONE, x.ahead(0, 1, 3));
        T.due("without a LANE", NONE, none.ahead(0, 0, 0));
        says("`int leads(int child)`: LEADS; -2: behind none of these; NONE without that CHILD.");
        T.due("behind none", -2, forced(TWO, "leap 0").leads(1));
        T.due("CHILD 2", NONE, x.leads(2));
        says("`int stuck()`: STUCK; -2: in none of these; NONE without a LANE.");
        T.due("in none", -2, x.stuck());
        T.due("without a LANE", NONE, none.stuck());
        says("`int given(int n, int what)`: GIVEN what 0: who (NONE: nobody), 1: how many. -2 without these, or a LANE.");
        T.due("nobody", NONE, x.given(40, 0));
        T.due("how many", 40, x.given(40, 1));
        T.due("0 TURNS", -2, x.given(0, 0));
        T.due("what 2", -2, x.given(1, 2));
        T.due("without a LANE", -2, none.given(1, 0));
    }

    // ---- promises 26 to 33

    private static void promisesOfWhatIsReckoned() {
        LeapLane none = new LeapLane();
        LeapLane x = Told.of(TWO, "leap 0");
        says("`int leapsOf(int child)`: LEAPS, as bits (1 to 20); NONE without that CHILD.");
        T.due("as bits", ALL_NUMBERS, x.leapsOf(1));
        T.due("CHILD 2", NONE, x.leapsOf(2));
        says("`int backsOf(int child)`: BACKS, as bits (1 to 20); NONE without that CHILD.");
        T.due("as bits", ALL_NUMBERS, x.backsOf(1));
        T.due("CHILD 2", NONE, x.backsOf(2));
        says("`int rests(int one, int other, int n, int what)`: RESTS what 0: how many, 1, 2: BACKS of the first (-2: there is"
            + " none). NONE without these (unlike).");
        // found by a program that played each two with stoop and turn: there is none
        LeapLane noRest = Told.of("lane 2;child 14 9 3;child 9 12 3;child 11 5 3;child 6 15 2");
        T.due("there is none", 0, noRest.rests(0, 1, 4, 0));
        T.due("there is none", -2, noRest.rests(0, 1, 4, 1));
        T.due("there is none", -2, noRest.rests(0, 1, 4, 2));
        T.due("alike", NONE, x.rests(1, 1, 1, 0));
        T.due("CHILD 2", NONE, x.rests(0, 2, 1, 0));
        T.due("21 TURNS", NONE, x.rests(0, 1, 21, 0));
        T.due("what 3", NONE, x.rests(0, 1, 1, 3));
        says("`int alike(int what)`: ALIKE what 0: the TURN, 1: how much later; -2: there is none. NONE for others, or without"
            + " a LANE.");
        T.due("what 2", NONE, x.alike(2));
        T.due("without a LANE", NONE, none.alike(0));
        says("`int pence(int much, int child)`: PENCE of a CHILD; NONE without these.");
        T.due("10000 PENCE", NONE, x.pence(10000, 0));
        T.due("-1 PENCE", NONE, x.pence(-1, 0));
        T.due("CHILD 2", NONE, x.pence(1, 2));
        promisesOfNotes(x, none);
    }

    private static void promisesOfNotes(LeapLane x, LeapLane none) {
        says("`int note(int n, int child)`: A NOTE (n NONE: there are none then, 0): how many; -2, and nothing happens, without"
            + " these, or if there are 10.");
        T.due("how many", 1, x.note(60, 1));
        T.due("CHILD 2", -2, x.note(0, 2));
        T.due("TURN -2", -2, x.note(-2, 0));
        T.due("nothing happens", 1, x.count(8));
        T.due("there are none then", 0, x.note(NONE, 0));
        T.due("there are none", 0, x.count(8));
        says("`int ruled(int what)`: RULED what 0: how many, 1: the first (NONE: none; -2: there is none such). -3 for others,"
            + " or without a LANE.");
        T.due("none is the first", NONE, x.ruled(1));
        x.note(0, 0);
        T.due("RULE 0", 0, x.ruled(1));
        x.note(0, 1);
        T.due("there is none such", -2, x.ruled(1));
        T.due("how many", 0, x.ruled(0));
        T.due("what 2", -3, x.ruled(2));
        T.due("without a LANE", -3, none.ruled(0));
        says("`int look(int what)`: LOOK what 0: the TURN, 1: how many; -2: no RULE is so, or there are no CHILDREN. NONE for"
            + " others, or without a LANE.");
        T.due("no RULE is so", -2, x.look(0));
        T.due("no RULE is so", -2, x.look(1));
        T.due("no CHILDREN", -2, Told.of("lane 1", "leap 1").look(0));
        T.due("what 2", NONE, x.look(2));
        T.due("without a LANE", NONE, none.look(0));
    }

    // ---- promises 34 to 38

    private static void promisesOfDrawsAndImages() {
        LeapLane none = new LeapLane();
        LeapLane x = Told.of(TWO);
        says("`int seed(int x)`: x becomes a number: what it was; NONE, and nothing happens, below 0.");
        T.due("what it was", 0, x.seed(2147483647));
        T.due("below 0", NONE, x.seed(-1));
        T.due("what it was", 2147483647, x.seed(0));
        says("`int stumbles(int m, int n, int p, int what)`: STUMBLES what 0: how many backs, all together, 1: how many. NONE"
            + " without these, or a LANE.");
        T.due("all together", 600, x.stumbles(10, 60, 0, 0));
        T.due("how many", 10, x.stumbles(10, 60, 0, 1));
        int[][] wrong = {{0, 1, 0, 0}, {11, 1, 0, 0}, {1, 0, 0, 0}, {1, 61, 0, 0}, {1, 1, -1, 0}, {1, 1, 101, 0},
            {1, 1, 0, -1}, {1, 1, 0, 2}};
        for (int[] a : wrong) {
            T.due("without these", NONE, x.stumbles(a[0], a[1], a[2], a[3]));
        }
        T.due("without a LANE", NONE, none.stumbles(1, 1, 0, 0));
        says("`int count(int what)`: What 0: SPRING, 1: CHILDREN, 2: RULES, 3: the RULE IN FORCE (NONE), 4: TURN, 5: who CAN, as"
            + " bits, 6: who is first (NONE: nobody), 7: how many backs all LEAPT, 8: NOTES, 9: ACTS that can be UNDONE, 10:"
            + " x, 11: bytes of the TAPE. NONE for others.");
        LeapLane y = forced(FOUR, "leap 1");
        y.turn();
        y.turn();
        y.note(0, 1);
        y.seed(7);
        y.end(0);
        y.feed(1, 2, 3, 4, 5);
        // 1 leaps 0, then 0 leaps 1, as the least of those with 1
        counts("what", y, 2, 4, 1, 0, 2, 0b1010, 0, 2, 1, 2, 7, 20, NONE);
        T.due("what -1", NONE, y.count(-1));
        T.due("nobody is first", NONE, none.count(6));
        says("`int image(int k)`: An IMAGE is made: TURN; NONE without it.");
        T.due("TURN", 2, y.image(3));
        T.due("IMAGE 4", NONE, y.image(4));
        T.due("IMAGE -1", NONE, y.image(-1));
        says("`int back(int k)`: All is as in an IMAGE: TURN; NONE, and nothing happens, if it was never made, or without it.");
        y.turn();
        T.due("never made", NONE, y.back(0));
        T.due("IMAGE 4", NONE, y.back(4));
        T.due("nothing happens", 3, y.count(4));
        T.due("TURN", 2, y.back(3));
        T.due("all is as in it", 1234, y.order());
    }

    private static void notPromised() {
        says("How the state is held inside the object is free, as are the speed of each call, the text of toString and the"
            + " behaviour of equals and hashCode.");
        says("Use of one object from several threads at once is not promised to be safe.");
        says("Nothing is promised beyond the answers and state changes described above, and nothing about an object after its"
            + " 512th call.");
        ends();
    }

    public static void main(String[] args) throws IOException {
        open();
        whatItIs();
        lane();
        rules();
        limits();
        faults();
        canLeap();
        whoLeaps();
        whatATurnDoes();
        acts();
        byLeapsAlone();
        goesOn();
        leapsAndBacks();
        rests();
        alike();
        pence();
        notes();
        draws();
        images();
        promisesOfTexts();
        promisesOfActs();
        promisesByLeapsAlone();
        promisesOfGoingOn();
        promisesOfWhatIsReckoned();
        promisesOfDrawsAndImages();
        notPromised();
        T.close();
    }
}

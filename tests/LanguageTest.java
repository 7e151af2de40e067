import java.io.IOException;
import java.lang.reflect.Array;
import java.lang.reflect.Field;
import java.lang.reflect.Method;
import java.lang.reflect.Modifier;
import java.nio.file.Files;
import java.nio.file.Path;
import java.util.ArrayList;
import java.util.Arrays;
import java.util.IdentityHashMap;
import java.util.List;
import java.util.Map;
import java.util.Set;
import java.util.TreeMap;
import java.util.TreeSet;
import java.util.regex.Matcher;
import java.util.regex.Pattern;

/** Rules of LANGUAGE.md that a program can look after, the public face, and the room that an object takes. */
public final class LanguageTest {
    private static final Told T = new Told("LanguageTest");
    private static final String FACE = "feed 5 end 1 lane 0 rule 0 force 1 child 2 order 0 turn 0 leap 2 stoop 2 breath 2 "
        + "front 1 undo 0 fewest 1 step 3 orders 1 farthest 1 first 1 behind 1 sources 0 ahead 3 leads 1 stuck 0 given 2 "
        + "leapsOf 1 backsOf 1 rests 4 alike 1 pence 2 note 2 ruled 1 look 1 seed 1 stumbles 4 count 1 image 1 back 1";

    private static List<Class<?>> classes() {
        List<Class<?>> all = new ArrayList<>();
        all.add(LeapLane.class);
        all.addAll(Arrays.asList(LeapLane.class.getDeclaredClasses()));
        return all;
    }

    private static void face() {
        Map<String, Integer> due = new TreeMap<>();
        String[] words = FACE.split(" ");
        for (int i = 0; i < words.length; i += 2) {
            due.put(words[i], Integer.parseInt(words[i + 1]));
        }
        T.due("methods of the face", 37, due.size());
        Set<String> seen = new TreeSet<>();
        for (Method m : LeapLane.class.getDeclaredMethods()) {
            boolean isPublic = Modifier.isPublic(m.getModifiers());
            T.due(m.getName() + " is of the face or private", 1,
                isPublic || Modifier.isPrivate(m.getModifiers()) || m.isSynthetic() ? 1 : 0);
            if (isPublic) {
                T.due("parameters of " + m.getName(), due.getOrDefault(m.getName(), -1), m.getParameterCount());
                T.due(m.getName() + " answers an int", 1, m.getReturnType() == int.class ? 1 : 0);
                seen.add(m.getName());
            }
        }
        T.due("all of the face", 1, seen.equals(due.keySet()) ? 1 : 0);
        T.due("constructors", 1, LeapLane.class.getDeclaredConstructors().length);
        T.due("the class is final", 1, Modifier.isFinal(LeapLane.class.getModifiers()) ? 1 : 0);
        for (Field f : LeapLane.class.getDeclaredFields()) {
            T.due(f.getName() + " is NONE or private", 1,
                f.getName().equals("NONE") || Modifier.isPrivate(f.getModifiers()) ? 1 : 0);
        }
        for (Class<?> c : classes()) {
            for (Method m : c.getDeclaredMethods()) {
                T.due(c + "." + m.getName() + " bears no name of the face", 0,
                    c != LeapLane.class && due.containsKey(m.getName()) ? 1 : 0);
                T.due("parameters of " + c + "." + m.getName(), 1, m.getParameterCount() <= 7 ? 1 : 0);
            }
        }
    }

    private static void fields() {
        Set<Class<?>> allowed = Set.of(int.class, long.class, boolean.class, char.class, String.class, int[].class,
            long[].class, char[].class, byte[].class);
        T.due("classes, twelve at most", 1, classes().size() <= 12 ? 1 : 0);
        for (Class<?> c : classes()) {
            T.due(c + " is static or the outer one", 1,
                c == LeapLane.class || Modifier.isStatic(c.getModifiers()) && !Modifier.isPublic(c.getModifiers()) ? 1 : 0);
            int fields = 0;
            for (Field f : c.getDeclaredFields()) {
                if (Modifier.isStatic(f.getModifiers())) {
                    T.due(f + " is a constant", 1,
                        Modifier.isFinal(f.getModifiers()) && allowed.contains(f.getType()) ? 1 : 0);
                } else {
                    fields++;
                }
            }
            T.due(c + " has some twenty fields at most", 1, fields <= 20 ? 1 : 0);
        }
    }

    private static String bare(String source) {
        return source.replaceAll("(?s)/\\*.*?\\*/", "").replaceAll("//[^\n]*", "").replaceAll("\"[^\"\n]*\"", "\"\"");
    }

    private static void words(String source) {
        String bare = bare(source);
        String[] forbidden = {"\\bthrow\\b", "\\bthrows\\b", "\\btry\\b", "\\bcatch\\b", "\\bfinally\\b", "\\bsynchronized\\b",
            "\\bassert\\b", "->", "::", "Exact\\b", "\\bpackage\\b", "\\bObject\\b", "System\\.(?!arraycopy)", "\\bThread\\b",
            "\\bRandom\\b", "\\bprotected\\b", "@", "\\bequals\\b", "\\bhashCode\\b", "\\btoString\\b", "\\bstatic \\{",
            "\\bInteger\\.M", "\\bLong\\.M", "\\bdouble\\b", "\\bfloat\\b"};
        for (String word : forbidden) {
            T.due("'" + word + "' in the source", 0, Pattern.compile(word).matcher(bare).find() ? 1 : 0);
        }
        Matcher imports = Pattern.compile("(?m)^import (.*);$").matcher(bare);
        while (imports.find()) {
            T.due("import " + imports.group(1), 1, imports.group(1).equals("java.util.Arrays") ? 1 : 0);
        }
        for (char c : source.toCharArray()) {
            if (c > 126) {
                T.due("a sign beyond 126", 0, c);
            }
        }
    }

    private static void lengths(String source) {
        String[] lines = source.split("\n");
        int methods = 0;
        for (int i = 0; i < lines.length; i++) {
            if (lines[i].matches("( {4}| {8})[a-zA-Z].*\\(.*\\) \\{") && !lines[i].contains("=")
                && !lines[i].matches(" *(if|for|while|switch) .*")) {
                String indent = lines[i].replaceAll("\\S.*", "");
                int to = i;
                while (to < lines.length - 1 && !lines[to].equals(indent + "}")) {
                    to++;
                }
                methods++;
                T.due("lines of '" + lines[i].trim() + "' are some sixty at most", 1, to - i < 60 ? 1 : 0);
            }
        }
        T.due("methods are found", 1, methods > 100 ? 1 : 0);
    }

    /** Objects and arrays, and their fields and elements, that can be reached. */
    private static void measure(Object from, Map<Object, Boolean> seen, long[] sizes) throws IllegalAccessException {
        if (from == null || from instanceof String || seen.put(from, true) != null) {
            return;
        }
        sizes[0]++;
        if (from.getClass().isArray()) {
            sizes[1] += Array.getLength(from);
            for (int i = 0; i < Array.getLength(from) && !from.getClass().getComponentType().isPrimitive(); i++) {
                measure(Array.get(from, i), seen, sizes);
            }
            return;
        }
        for (Field f : from.getClass().getDeclaredFields()) {
            if (!Modifier.isStatic(f.getModifiers())) {
                sizes[1]++;
                f.setAccessible(true);
                if (!f.getType().isPrimitive()) {
                    measure(f.get(from), seen, sizes);
                }
            }
        }
    }

    private static void room() throws IllegalAccessException {
        LeapLane x = new LeapLane();
        for (int i = 0; i < 30; i++) {
            Told.lane(x, "lane 6" + ";child 5 9 9".repeat(7));
            Told.rule(x, "leap child + place" + ";leap 1 if place > 2 and not turn = 4".repeat(5));
            x.force(i % 7 - 1);
            x.orders(30);
            x.step(7654321, 3, 0);
            for (int k = 0; k < 30; k++) {
                x.turn();
                x.image(k % 4);
            }
            x.back(i % 4);
            x.rests(0, 1, 20, 0);
            x.look(0);
            x.alike(0);
            x.given(40, 0);
            x.stumbles(10, 60, 50, 0);
        }
        long[] sizes = new long[2];
        measure(x, new IdentityHashMap<>(), sizes);
        System.out.println("LanguageTest: " + sizes[0] + " objects, " + sizes[1] + " fields and elements in one that did all");
        T.due("objects of one that did all: " + sizes[0], 1, sizes[0] < 300 ? 1 : 0);
        T.due("fields and elements of one that did all: " + sizes[1], 1, sizes[1] < 30000 ? 1 : 0);
    }

    public static void main(String[] args) throws IOException, IllegalAccessException {
        String source = Files.readString(Path.of("src/main/java/LeapLane.java"));
        face();
        fields();
        words(source);
        lengths(source);
        room();
        T.close();
    }
}

import java.lang.reflect.Array;
import java.lang.reflect.Constructor;
import java.lang.reflect.Field;
import java.lang.reflect.Method;
import java.lang.reflect.Modifier;
import java.nio.charset.StandardCharsets;
import java.nio.file.Files;
import java.nio.file.Path;
import java.util.ArrayList;
import java.util.IdentityHashMap;
import java.util.List;
import java.util.TreeSet;
import java.util.regex.Matcher;
import java.util.regex.Pattern;

/** The document's face, and those rules of LANGUAGE.md that a look at the class and its text can find. */
public final class LanguageTest {
    private static final String[] FACE = {
        "int feed(long)", "int end(int)", "int text()", "int fault()", "int rule(int)", "int cell(int,int)",
        "int side(int,int)", "int room(int,int)", "int slope(int,int)", "int hedge(int,int)", "int fool(int,int)",
        "int men(int,int)", "int captain(int,int,int)", "int rest(int)", "int breaks(int)", "int put(int)",
        "int sends(int)", "int net(int,int)", "int go(int,int,boolean)", "int ahead(int)", "int over()",
        "long odds(int,int,int)", "long mean(int,int)", "int reply(int,int,int)", "int hold(int,int,int)",
        "int table(int,int,int)", "int without(int,int)", "int tell(int,int)", "int forget(int)", "int lies()",
        "int where()", "int play(int,int,int)", "int keep(int)", "int back(int)", "int sheet(int,int,int)",
        "int lay(int,int,int)", "int read(int,int,int,int)", "int torn()", "int count(int)"};
    private static final String[] WORDS = {"throw", "throws", "try", "catch", "finally", "synchronized", "assert",
        "import", "package", "volatile", "transient", "native", "strictfp", "System.out", "System.exit",
        "System.nanoTime", "System.currentTimeMillis", "Random", "Thread", "Math.random", "hashCode", "equals",
        "toString", "Exact", "->", "::", "@"};

    private static int passed = 0;
    private static int failed = 0;

    private static void holds(String what, boolean so) {
        if (so) {
            passed++;
        } else {
            failed++;
            System.out.println("is not so: " + what);
        }
    }

    public static void main(String[] args) throws Exception {
        String source = Files.readString(Path.of(args.length > 0 ? args[0] : "src/main/java/KegBrooks.java"),
            StandardCharsets.UTF_8);
        face();
        classesInside();
        text(source);
        methods(source);
        room();
        System.out.println("LanguageTest: " + passed + " passed, " + failed + " failed");
        if (failed > 0) {
            System.exit(1);
        }
    }

    private static void face() throws Exception {
        Class<?> c = KegBrooks.class;
        holds("public final", c.getModifiers() == (Modifier.PUBLIC | Modifier.FINAL));
        TreeSet<String> want = new TreeSet<>(List.of(FACE));
        TreeSet<String> names = new TreeSet<>();
        TreeSet<String> got = new TreeSet<>();
        for (Method m : c.getDeclaredMethods()) {
            if (Modifier.isPublic(m.getModifiers())) {
                names.add(m.getName());
                got.add(signatureOf(m));
                holds("no static " + m, !Modifier.isStatic(m.getModifiers()));
            }
        }
        holds("the methods of the face: " + got, got.equals(want));
        for (Method m : c.getDeclaredMethods()) {
            boolean open = Modifier.isPublic(m.getModifiers());
            holds("public or private: " + m, open || Modifier.isPrivate(m.getModifiers()) || m.isSynthetic());
            holds("no private one of a public name: " + m, open || !names.contains(m.getName()));
        }
        for (Class<?> inside : c.getDeclaredClasses()) {
            for (Method m : inside.getDeclaredMethods()) {
                holds("no public name inside: " + m, !names.contains(m.getName()));
            }
        }
        Constructor<?>[] constructors = c.getDeclaredConstructors();
        holds("one constructor", constructors.length == 1 && Modifier.isPublic(constructors[0].getModifiers())
            && constructors[0].getParameterCount() == 0);
        constants(c);
    }

    private static String signatureOf(Method m) {
        StringBuilder b = new StringBuilder(m.getReturnType() + " " + m.getName() + "(");
        for (Class<?> p : m.getParameterTypes()) {
            b.append(b.charAt(b.length() - 1) == '(' ? "" : ",").append(p);
        }
        return b + ")";
    }

    private static void constants(Class<?> c) throws Exception {
        String[] names = {"BAD", "STATE", "FULL", "NONE"};
        int open = 0;
        for (Field f : c.getDeclaredFields()) {
            if (Modifier.isPublic(f.getModifiers())) {
                open++;
            } else {
                holds("private: " + f, Modifier.isPrivate(f.getModifiers()));
            }
        }
        holds("four public constants", open == 4);
        for (int k = 0; k < 4; k++) {
            Field f = c.getField(names[k]);
            holds(names[k], f.getType() == int.class && Modifier.isStatic(f.getModifiers())
                && Modifier.isFinal(f.getModifiers()) && f.getInt(null) == -1 - k);
        }
    }

    private static void classesInside() {
        List<Class<?>> all = new ArrayList<>(List.of(KegBrooks.class.getDeclaredClasses()));
        all.add(KegBrooks.class);
        holds("some twelve classes at most: " + all.size(), all.size() <= 12);
        for (Class<?> c : all) {
            int fields = 0;
            for (Field f : c.getDeclaredFields()) {
                if (Modifier.isStatic(f.getModifiers())) {
                    holds("a constant: " + f, Modifier.isFinal(f.getModifiers())
                        && (f.getType().isPrimitive() || f.getType() == String.class));
                } else {
                    fields++;
                }
            }
            holds("twenty fields at most: " + c, fields <= 20);
            holds("static: " + c, c == KegBrooks.class || Modifier.isStatic(c.getModifiers()));
            for (Method m : c.getDeclaredMethods()) {
                holds("seven parameters at most: " + m, m.getParameterCount() <= 7);
            }
        }
    }

    private static void text(String source) {
        String code = source.replaceAll("(?s)/\\*.*?\\*/", "").replaceAll("//[^\n]*", "");
        for (String word : WORDS) {
            boolean name = Character.isLetter(word.charAt(0)) && !word.equals("Exact");
            Pattern p = Pattern.compile(name ? "\\b" + Pattern.quote(word) + "\\b" : Pattern.quote(word));
            holds("without " + word, !p.matcher(code).find());
        }
        holds("signs 1 to 127 alone", source.chars().allMatch(c -> c > 0 && c < 128));
        int start = -1;
        String[] lines = source.split("\n", -1);
        Matcher head = Pattern.compile("").matcher("");
        for (int k = 0; k < lines.length; k++) {
            holds("line " + (k + 1) + " is no longer than 130", lines[k].length() <= 130);
            boolean opens = head.usePattern(Pattern.compile("^( {4}| {8})\\S.*\\) \\{$")).reset(lines[k]).matches();
            if (opens) {
                start = k;
            } else if (start >= 0 && lines[k].matches("^( {4}| {8})\\}$")) {
                holds("sixty lines at most from line " + (start + 1), k - start < 60);
                start = -1;
            }
        }
    }

    // ---- methods

    /** A method or constructor of the class's text. */
    private static final class Body {
        String owner = "";
        String name = "";
        final StringBuilder text = new StringBuilder();
    }

    private static final Pattern CALL = Pattern.compile("(?<!new )(?:\\b(\\w+)\\.)?\\b(\\w+)\\(");
    private static final List<String> NO_CALLS = List.of("if", "for", "while", "switch", "return");
    // What of the library the class may need; the names of LANGUAGE.md's rule 4.
    private static final List<String> LIBRARY = List.of("Math.max", "Math.min", "Integer.bitCount", "System.arraycopy",
        "words.length", "words.charAt");

    private static void methods(String source) {
        List<Body> all = bodiesOf(source.replaceAll("(?s)/\\*.*?\\*/", "").replaceAll("//[^\n]*", ""));
        holds("some methods: " + all.size(), all.size() > 100);
        for (Body body : all) {
            boolean makes = Pattern.compile("\\bnew\\b").matcher(body.text).find();
            holds("nothing is made behind a constructor: " + body.name, !makes || body.name.equals(body.owner));
            for (Matcher m = CALL.matcher(body.text); m.find();) {
                boolean own = NO_CALLS.contains(m.group(2)) || all.stream().anyMatch(b -> b.name.equals(m.group(2)));
                holds("of the library: " + m.group(), own || LIBRARY.contains(m.group(1) + "." + m.group(2)));
            }
            int deep = depthOf(body, all, new ArrayList<>());
            holds("calls go eight deep at most: " + body.owner + "." + body.name + " " + deep, deep <= 8);
        }
    }

    /** How deep the calls of a method go, itself as well; one that calls itself is one. */
    private static int depthOf(Body body, List<Body> all, List<Body> open) {
        open.add(body);
        int deepest = 0;
        for (Matcher m = CALL.matcher(body.text); m.find();) {
            if (LIBRARY.contains(m.group(1) + "." + m.group(2))) {
                deepest = Math.max(deepest, 1);
            }
            for (Body called : all) {
                if (called.name.equals(m.group(2)) && !open.contains(called)) {
                    deepest = Math.max(deepest, depthOf(called, all, open));
                }
            }
        }
        open.remove(body);
        return deepest + 1;
    }

    private static List<Body> bodiesOf(String code) {
        List<Body> all = new ArrayList<>();
        Pattern head = Pattern.compile("( +)(?:[a-z]+ )*(?:[A-Za-z\\[\\]]+ )?(\\w+)\\([^()]*\\) \\{");
        Pattern kind = Pattern.compile(" *(?:[a-z]+ )*class (\\w+) \\{");
        String owner = "";
        String end = "";
        Body body = null;
        for (String line : code.split("\n")) {
            Matcher h = head.matcher(line);
            Matcher k = kind.matcher(line);
            if (k.matches()) {
                owner = k.group(1);
            } else if (body == null && h.matches() && !NO_CALLS.contains(h.group(2))) {
                body = new Body();
                body.owner = owner;
                body.name = h.group(2);
                end = h.group(1) + "}";
                all.add(body);
            } else if (body != null && line.equals(end)) {
                body = null;
            } else if (body != null) {
                body.text.append(line).append('\n');
            }
        }
        return all;
    }

    // ---- room

    private static long objects = 0;
    private static long elements = 0;

    /** What an object holds: a run may make one with each of its 512 calls, and has room for all of them. */
    private static void room() throws Exception {
        walk(new KegBrooks(), new IdentityHashMap<>());
        holds("room for 512 times " + objects + " objects", objects * 512 < 600_000);
        holds("room for 512 times " + elements + " fields and elements", elements * 512 < 7_300_000);
    }

    private static void walk(Object x, IdentityHashMap<Object, Object> met) throws Exception {
        if (x == null || x instanceof String || met.put(x, x) != null) {
            return;
        }
        objects++;
        if (x.getClass().isArray()) {
            elements += Array.getLength(x);
            for (int i = 0; x instanceof Object[] && i < Array.getLength(x); i++) {
                walk(Array.get(x, i), met);
            }
            return;
        }
        for (Field f : x.getClass().getDeclaredFields()) {
            if (!Modifier.isStatic(f.getModifiers())) {
                elements++;
                f.setAccessible(true);
                if (!f.getType().isPrimitive()) {
                    walk(f.get(x), met);
                }
            }
        }
    }
}

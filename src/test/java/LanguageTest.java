import java.lang.reflect.Constructor;
import java.lang.reflect.Field;
import java.lang.reflect.Method;
import java.lang.reflect.Modifier;
import java.nio.charset.StandardCharsets;
import java.nio.file.Files;
import java.nio.file.Path;
import java.util.ArrayList;
import java.util.List;
import java.util.TreeSet;
import java.util.regex.Matcher;
import java.util.regex.Pattern;

/** The document's face, and those rules of LANGUAGE.md that a look at the class and its text can find. */
public final class LanguageTest {
    private static final String[] FACE = {
        "int feed(long)", "int end(int)", "int text()", "int fault()", "int rule(int)", "int cell(int,int)",
        "int side(int,int)", "int room(int,int)", "int slope(int,int)", "int hedge(int,int)", "int fool(int,int)",
        "int men(int,int)", "int captain(int,int,int)", "int rest(int)", "int breaks(int)", "int put(int)",
        "int sends(int)", "int net(int,int)", "int go(int,int,boolean)", "int ahead(int)", "int over()",
        "long odds(int,int,int)", "long mean(int,int)", "int reply(int,int,int)", "int hold(int,int,int)",
        "int table(int,int,int)", "int without(int,int)", "int tell(int,int)", "int forget(int)", "int lies()",
        "int where()", "int play(int,int,int)", "int keep(int)", "int back(int)", "int sheet(int,int,int)",
        "int lay(int,int,int)", "int read(int,int,int,int)", "int torn()", "int count(int)"};
    private static final String[] WORDS = {"throw", "throws", "try", "catch", "finally", "synchronized", "assert",
        "import", "package", "volatile", "transient", "native", "strictfp", "System.out", "System.exit",
        "System.nanoTime", "System.currentTimeMillis", "Random", "Thread", "Math.random", "hashCode", "equals",
        "toString", "Exact", "->", "::", "@"};

    private static int passed = 0;
    private static int failed = 0;

    private static void holds(String what, boolean so) {
        if (so) {
            passed++;
        } else {
            failed++;
            System.out.println("is not so: " + what);
        }
    }

    public static void main(String[] args) throws Exception {
        face();
        classesInside();
        text(Files.readString(Path.of(args.length > 0 ? args[0] : "src/main/java/KegBrooks.java"), StandardCharsets.UTF_8));
        System.out.println("LanguageTest: " + passed + " passed, " + failed + " failed");
        if (failed > 0) {
            System.exit(1);
        }
    }

    private static void face() throws Exception {
        Class<?> c = KegBrooks.class;
        holds("public final", c.getModifiers() == (Modifier.PUBLIC | Modifier.FINAL));
        TreeSet<String> want = new TreeSet<>(List.of(FACE));
        TreeSet<String> names = new TreeSet<>();
        TreeSet<String> got = new TreeSet<>();
        for (Method m : c.getDeclaredMethods()) {
            if (Modifier.isPublic(m.getModifiers())) {
                names.add(m.getName());
                got.add(signatureOf(m));
                holds("no static " + m, !Modifier.isStatic(m.getModifiers()));
            }
        }
        holds("the methods of the face: " + got, got.equals(want));
        for (Method m : c.getDeclaredMethods()) {
            boolean open = Modifier.isPublic(m.getModifiers());
            holds("public or private: " + m, open || Modifier.isPrivate(m.getModifiers()) || m.isSynthetic());
            holds("no private one of a public name: " + m, open || !names.contains(m.getName()));
        }
        for (Class<?> inside : c.getDeclaredClasses()) {
            for (Method m : inside.getDeclaredMethods()) {
                holds("no public name inside: " + m, !names.contains(m.getName()));
            }
        }
        Constructor<?>[] constructors = c.getDeclaredConstructors();
        holds("one constructor", constructors.length == 1 && Modifier.isPublic(constructors[0].getModifiers())
            && constructors[0].getParameterCount() == 0);
        constants(c);
    }

    private static String signatureOf(Method m) {
        StringBuilder b = new StringBuilder(m.getReturnType() + " " + m.getName() + "(");
        for (Class<?> p : m.getParameterTypes()) {
            b.append(b.charAt(b.length() - 1) == '(' ? "" : ",").append(p);
        }
        return b + ")";
    }

    private static void constants(Class<?> c) throws Exception {
        String[] names = {"BAD", "STATE", "FULL", "NONE"};
        int open = 0;
        for (Field f : c.getDeclaredFields()) {
            if (Modifier.isPublic(f.getModifiers())) {
                open++;
            } else {
                holds("private: " + f, Modifier.isPrivate(f.getModifiers()));
            }
        }
        holds("four public constants", open == 4);
        for (int k = 0; k < 4; k++) {
            Field f = c.getField(names[k]);
            holds(names[k], f.getType() == int.class && Modifier.isStatic(f.getModifiers())
                && Modifier.isFinal(f.getModifiers()) && f.getInt(null) == -1 - k);
        }
    }

    private static void classesInside() {
        List<Class<?>> all = new ArrayList<>(List.of(KegBrooks.class.getDeclaredClasses()));
        all.add(KegBrooks.class);
        holds("some twelve classes at most: " + all.size(), all.size() <= 12);
        for (Class<?> c : all) {
            int fields = 0;
            for (Field f : c.getDeclaredFields()) {
                if (Modifier.isStatic(f.getModifiers())) {
                    holds("a constant: " + f, Modifier.isFinal(f.getModifiers())
                        && (f.getType().isPrimitive() || f.getType() == String.class));
                } else {
                    fields++;
                }
            }
            holds("twenty fields at most: " + c, fields <= 20);
            holds("static: " + c, c == KegBrooks.class || Modifier.isStatic(c.getModifiers()));
            for (Method m : c.getDeclaredMethods()) {
                holds("seven parameters at most: " + m, m.getParameterCount() <= 7);
            }
        }
    }

    private static void text(String source) {
        String code = source.replaceAll("(?s)/\\*.*?\\*/", "").replaceAll("//[^\n]*", "");
        for (String word : WORDS) {
            boolean name = Character.isLetter(word.charAt(0)) && !word.equals("Exact");
            Pattern p = Pattern.compile(name ? "\\b" + Pattern.quote(word) + "\\b" : Pattern.quote(word));
            holds("without " + word, !p.matcher(code).find());
        }
        holds("signs 1 to 127 alone", source.chars().allMatch(c -> c > 0 && c < 128));
        int start = -1;
        String[] lines = source.split("\n", -1);
        Matcher head = Pattern.compile("").matcher("");
        for (int k = 0; k < lines.length; k++) {
            holds("line " + (k + 1) + " is no longer than 130", lines[k].length() <= 130);
            boolean opens = head.usePattern(Pattern.compile("^( {4}| {8})\\S.*\\) \\{$")).reset(lines[k]).matches();
            if (opens) {
                start = k;
            } else if (start >= 0 && lines[k].matches("^( {4}| {8})\\}$")) {
                holds("sixty lines at most from line " + (start + 1), k - start < 60);
                start = -1;
            }
        }
    }
}

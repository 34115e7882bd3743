import java.util.ArrayList;
import java.util.Arrays;
import java.util.LinkedHashMap;
import java.util.List;
import java.util.Map;
import java.util.TreeSet;

/**
 * What the tests of edges share. An edge is named by the document's section and by the words of the sentence that it
 * tests; that the words stand in that section is looked up in the document itself.
 */
final class Edges {
    static final int MIN = Integer.MIN_VALUE;
    static final int MAX = Integer.MAX_VALUE;
    static final int BAD = -1;
    static final int STATE = -2;
    static final int FULL = -3;
    static final int NONE = -4;

    /** What the tests do with an object. */
    interface Call {
        long on(KegBrooks x);
    }

    /** A call by one number. */
    interface CallBy {
        long on(KegBrooks x, int v);
    }

    /** Makes an object in a state of its own, each time the same. */
    interface Setup {
        KegBrooks make();
    }

    private static final Map<String, List<String>> QUOTES = new LinkedHashMap<>();
    private static String edge = "";
    private static int edges = 0;
    private static int passed = 0;
    private static int failed = 0;

    private Edges() {
    }

    // ---- edges by name

    static void edge(String section, String words, Runnable test) {
        QUOTES.computeIfAbsent(section, s -> new ArrayList<>()).add(words);
        edge = section + " | " + words;
        edges++;
        try {
            test.run();
        } catch (RuntimeException e) {
            fail("threw " + e);
        }
    }

    static void promise(int number, String words, Runnable test) {
        edge("Promise " + number, words, test);
    }

    static void terms(String words, Runnable test) {
        edge("Terms", words, test);
    }

    static void due(String call, long got, long want) {
        if (got == want) {
            passed++;
        } else {
            fail(call + " answered " + got + ", due is " + want);
        }
    }

    static void fail(String what) {
        failed++;
        System.out.println(edge + " | " + what);
    }

    /** The quotes are looked up in the document; whether all edges held. */
    static boolean finish(String document) {
        edge = "the document";
        quotesStandIn(sectionsOf(document));
        System.out.println("EdgesTest: " + edges + " edges, " + passed + " passed, " + failed + " failed");
        return failed == 0;
    }

    private static String plain(String s) {
        return s.replaceAll("\\s+", " ").trim();
    }

    private static Map<String, String> sectionsOf(String document) {
        Map<String, String> sections = new LinkedHashMap<>();
        for (String part : document.split("(?m)^#+ ")) {
            int end = part.indexOf('\n');
            String head = end < 0 ? part : part.substring(0, end);
            String body = end < 0 ? "" : part.substring(end);
            sections.put(head.replaceAll(":.*", "").trim(), plain(body));
        }
        return sections;
    }

    private static void quotesStandIn(Map<String, String> sections) {
        for (Map.Entry<String, List<String>> quotes : QUOTES.entrySet()) {
            String body = sections.getOrDefault(quotes.getKey(), "");
            for (String words : quotes.getValue()) {
                if (body.contains(words)) {
                    passed++;
                } else {
                    fail(quotes.getKey() + " has no words: " + words);
                }
            }
        }
        for (Map.Entry<String, String> section : sections.entrySet()) {
            // What is not promised is free.
            if (!section.getKey().equals("Not promised")) {
                wordsAreTaken(section.getKey(), section.getValue());
            }
        }
    }

    /** Each word of a section is in the name of an edge. */
    private static void wordsAreTaken(String section, String body) {
        boolean[] taken = new boolean[body.length()];
        List<String> all = new ArrayList<>(QUOTES.getOrDefault(section, List.of()));
        all.addAll(NO_EDGE);
        for (String words : all) {
            for (int at = body.indexOf(words); at >= 0; at = body.indexOf(words, at + 1)) {
                Arrays.fill(taken, at, at + words.length(), true);
            }
        }
        StringBuilder left = new StringBuilder();
        for (int i = 0; i < taken.length; i++) {
            left.append(taken[i] ? '|' : body.charAt(i));
        }
        String rest = left.toString().replaceAll("```(text|java)?|======== [12] ", "");
        if (rest.matches("[|\\s.,;:(){}]*")) {
            passed++;
        } else {
            fail(section + " has words without an edge: " + rest.replaceAll("\\|+", " | "));
        }
    }

    // Words that lead on to what is told behind them, and what is free.
    private static final List<String> NO_EDGE = List.of(
        "Answers: ", "SIDES 0 and 1, each with ", "KINDS of CAPTAINS, what they SEND: ", "each with ",
        "FAULTS, ", "THE TAPE has ", "A text that is taken ", "what later calls answer is free.");

    // ---- bounds

    /** Numbers about each bound that the document tells, and those that wrap around to one. */
    static int[] numbers() {
        TreeSet<Integer> all = new TreeSet<>();
        for (int v = -50; v <= 70; v++) {
            all.add(v);
        }
        for (int bit = 7; bit < 32; bit++) {
            for (int v = -2; v <= 13; v++) {
                all.add((1 << bit) + v);
                all.add(v - (1 << bit));
            }
        }
        all.addAll(List.of(319, 320, 321, 328, 998, 999, 1000, 1001, MIN, MIN + 1, MAX - 1, MAX));
        int[] row = new int[all.size()];
        int i = 0;
        for (int v : all) {
            row[i++] = v;
        }
        return row;
    }

    /** A number is taken from the least to the most; every other one is BAD, and changes nothing. */
    static void bounds(String what, Setup setup, int least, int most, CallBy call) {
        for (int v : numbers()) {
            long got = call.on(setup.make(), v);
            if (v >= least && v <= most ? got == BAD : got != BAD) {
                fail(what + " by " + v + " answered " + got);
            } else {
                passed++;
            }
        }
        for (int v : new int[] {least - 1, most + 1, MIN, MAX}) {
            refused(what + " by " + v, setup, x -> call.on(x, v), BAD);
        }
    }

    /** A cell, or over: 20, 21. Every other place is BAD, and changes nothing. */
    static void places(String what, Setup setup, int cells, CallBy call) {
        for (int v : numbers()) {
            long got = call.on(setup.make(), v);
            boolean place = v >= 0 && v < cells || v == 20 || v == 21;
            if (place ? got == BAD : got != BAD) {
                fail(what + " by place " + v + " answered " + got);
            } else {
                passed++;
            }
        }
        for (int v : new int[] {-1, cells, 19, 22, MIN, MAX}) {
            refused(what + " by place " + v, setup, x -> call.on(x, v), BAD);
        }
    }

    // ---- what changes nothing

    /** What a refused call answers, and that it has changed nothing. */
    static void refused(String what, Setup setup, Call call, long answer) {
        due(what, call.on(setup.make()), answer);
        changesNothing(what, setup, call);
    }

    /** Whatever is asked behind a call is answered as if the call had not been made. */
    static void changesNothing(String what, Setup setup, Call call) {
        for (int probe = 0; probe < PROBES; probe++) {
            KegBrooks with = setup.make();
            call.on(with);
            long[] got = ask(probe, with);
            long[] want = ask(probe, setup.make());
            int differs = Arrays.mismatch(got, want);
            if (differs < 0) {
                passed++;
            } else {
                fail(what + " has changed something: probe " + probe + ", answer " + differs + " is "
                    + got[differs] + ", was " + want[differs]);
            }
        }
    }

    private static final int PROBES = 5;

    private static long[] ask(int probe, KegBrooks x) {
        Answers a = new Answers();
        switch (probe) {
            case 0: looks(a, x); break;
            case 1: tape(a, x); break;
            case 2: images(a, x); break;
            case 3: told(a, x); break;
            default: sheets(a, x); break;
        }
        return a.row();
    }

    private static final class Answers {
        private final List<Long> all = new ArrayList<>();

        void add(long v) {
            all.add(v);
        }

        long[] row() {
            return all.stream().mapToLong(v -> v).toArray();
        }
    }

    static long[] looks(KegBrooks x) {
        Answers a = new Answers();
        looks(a, x);
        return a.row();
    }

    private static void looks(Answers a, KegBrooks x) {
        for (int what = 0; what < 5; what++) {
            a.add(x.rule(what));
        }
        for (int what = 0; what < 8; what++) {
            a.add(x.side(0, what));
            a.add(x.side(1, what));
        }
        for (int i = 0; i < 9; i++) {
            for (int what = 0; what < 3; what++) {
                a.add(x.cell(i, what));
            }
        }
        a.add(x.sends(0));
        a.add(x.sends(1));
        a.add(x.ahead(1));
        a.add(x.over());
        a.add(x.lies());
        a.add(x.where());
        a.add(x.torn());
        for (int what : new int[] {0, 1, 3, 4, 5}) {
            a.add(x.count(what));
        }
        // These two last, so that a refused text() can be held against them without them.
        a.add(x.count(2));
        a.add(x.fault());
    }

    private static void tape(Answers a, KegBrooks x) {
        int had = x.count(2);
        a.add(x.feed(0x2020202020202020L));
        a.add(x.end(had));
        a.add(x.text());
        looks(a, x);
    }

    private static void images(Answers a, KegBrooks x) {
        a.add(x.back(0));
        looks(a, x);
        a.add(x.back(1));
        looks(a, x);
        a.add(x.keep(0));
        a.add(x.keep(1));
    }

    /** What is told can be seen by what it says of each cell, and behind a minute more. */
    private static void told(Answers a, KegBrooks x) {
        int cells = x.rule(0);
        for (int i = 0; i < cells; i++) {
            a.add(x.put(i));
            a.add(x.lies());
        }
        a.add(x.captain(0, 0, 0));
        for (int i = 0; i < cells; i++) {
            a.add(x.put(i));
            a.add(x.lies());
        }
        for (int n = x.count(0); n >= 0; n--) {
            a.add(x.forget(n));
            a.add(x.where());
        }
        a.add(x.tell(0, 0));
    }

    /** What stands on sheets can be seen by the men that are sent by it; a new text leaves them. */
    private static void sheets(Answers a, KegBrooks x) {
        x.end(0);
        feedText(x, "side 0 12 all 0;side 1 12 all 0;rest 1;");
        a.add(x.text());
        for (int k = 0; k < 4; k++) {
            for (int lane = 0; lane < 3; lane++) {
                for (int f = 0; f < 6; f++) {
                    x.put(2);
                    a.add(x.read(k, lane, f, 1));
                    a.add(x.side(0, 1) * 100 + x.side(1, 1));
                }
                a.add(x.torn());
            }
            for (int i = 1; i < 8; i++) {
                a.add(x.lay(k, i, 0));
            }
        }
    }

    // ---- objects

    /** Feeds the bytes of a text and nothing more. */
    static void feedText(KegBrooks x, String text) {
        int had = x.count(2);
        for (int at = 0; at < text.length(); at += 8) {
            long v = 0;
            for (int k = at; k < at + 8; k++) {
                v = v << 8 | (k < text.length() ? text.charAt(k) : ' ');
            }
            x.feed(v);
        }
        x.end(had + text.length());
    }

    static KegBrooks of(String text) {
        KegBrooks x = new KegBrooks();
        feedText(x, text);
        int answer = x.text();
        if (answer < 0) {
            fail("the test's own text answered " + answer + ": " + text);
        }
        return x;
    }

    /** As many cells as may be told, level and empty, the keg in the middle one. */
    static KegBrooks cells(int n) {
        return of("cells " + n + ";");
    }

    /** An object that has something of everything: a refused call could change it anywhere. */
    static KegBrooks busy() {
        KegBrooks x = of("cells 6;room 1 5;slope 2 4;hedge 1 1;hedge 3 2;keg 3;side 0 9 steady 3;side 1 8 late 4;"
            + "fools 0 1;fools 1 2;rest 3;break 2;");
        x.go(3, 1, false);
        x.keep(0);
        x.rest(4);
        x.go(1, 3, false);
        x.keep(1);
        x.rest(1);
        x.go(0, 1, false);
        x.rest(2);
        x.tell(1, 3);
        x.tell(0, 2);
        x.tell(4, 20);
        x.sheet(0, 0, 6);
        x.sheet(1, 1, 4);
        x.sheet(2, 2, 3);
        for (int i = 0; i < 6; i++) {
            x.lay(0, i, 6 - i);
            x.lay(1, i, 2 + i);
            x.lay(2, i, 9 - i);
        }
        x.read(3, 0, 0, 1);
        feedText(x, "rest 9;");
        x.text();
        feedText(x, "keg 1;rest 4;");
        return x;
    }

    /** The busy one, with the keg over the brook of side 0. */
    static KegBrooks overAhead() {
        KegBrooks x = busy();
        x.put(0);
        x.slope(0, 0);
        x.go(0, 0, false);
        return x;
    }

    /** The busy one, with the keg over the brook of side 1. */
    static KegBrooks overBehind() {
        KegBrooks x = busy();
        x.put(5);
        x.slope(5, 6);
        x.go(0, 0, false);
        return x;
    }

    /** A level field behind so many minutes (0 to 999), with men of both sides. */
    static KegBrooks behind(int minutes) {
        KegBrooks x = of("side 0 3 all 0;side 1 3 all 0;");
        x.sheet(0, 2, 40);
        for (int left = minutes; left > 0; left -= 20) {
            x.read(0, 2, 0, Math.min(20, left));
        }
        return x;
    }

    /** It is over in its 999th minute. */
    static KegBrooks overAtTheLast() {
        KegBrooks x = behind(998);
        x.put(0);
        x.go(1, 0, false);
        return x;
    }
}

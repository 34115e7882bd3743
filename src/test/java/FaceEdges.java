import java.util.ArrayList;
import java.util.List;
import java.util.regex.Matcher;
import java.util.regex.Pattern;

/** What the document is headed by: what it is, the public face, what the interface says ahead of the calls. */
final class FaceEdges extends Dues {
    private FaceEdges() {
    }

    static void all(String document, String source) {
        pushing();
        minutesAhead();
        best();
        toldAndRead();
        face(document, source);
        promises(document, source);
        heads(document, source);
    }

    // ---- what it is

    private static void pushing() {
        Edges.edge("What it is", "A keg over two brooks: two villages push one keg over a field, each towards its own brook",
            () -> {
            KegBrooks x = of("cells 3;side 0 1 all 0;side 1 1 all 0;rest 1;");
            due("village 0 pushes", x.go(1, 0, false), 0);
            due("it rests", x.go(0, 0, false), 0);
            due("its brook", x.go(1, 0, false), 20);
            due("one keg is put back", x.put(1), 20);
            due("village 1 pushes", x.go(0, 1, false), 2);
            due("it rests, too", x.go(0, 0, false), 2);
            due("its own brook", x.go(0, 1, false), 21);
        });
        Edges.edge("What it is", "cells in which so many can act, slopes, hedges between", () -> {
            KegBrooks x = of("side 0 9 all 0;room 2 4;slope 2 2;hedge 1 5;");
            due("four can act, down a slope", x.net(9, 0), 95);
            due("a hedge between", x.go(9, 0, false), 2);
        });
        Edges.edge("What it is", "men fresh and resting, captains of kinds who send them", () -> {
            KegBrooks x = of("side 0 9 half 0;side 1 9 follows 0;rest 4;");
            due("half of nine", x.sends(0), 4);
            due("follows nine", x.sends(1), 9);
            x.go(4, 0, false);
            due("fresh", x.side(0, 0), 5);
            due("resting", x.side(0, 4), 4);
            due("half of five", x.sends(0), 2);
            due("follows five", x.sends(1), 5);
        });
        Edges.edge("What it is", "a minute by told numbers", () -> {
            KegBrooks x = of("side 0 9 all 0;side 1 9 all 0;");
            due("five against seven", x.go(5, 7, false), 3);
            due("those who were told", x.side(0, 2) * 10 + x.side(1, 2), 57);
        });
    }

    private static void minutesAhead() {
        Edges.edge("What it is", "where the keg is behind some minutes by both captains, exactly, by odds that somebody breaks "
            + "out with it", () -> {
            KegBrooks x = MinuteEdges.pushed(1, 4, 3);
            KegBrooks y = MinuteEdges.pushed(1, 4, 3);
            y.go(y.sends(0), y.sends(1), false);
            due("by both captains", x.ahead(1), y.rule(1));
            // In all places together it is for sure, to the last of 8 to the power of 8 parts.
            long parts = 0;
            for (int i = 0; i <= 21; i++) {
                if (i < 6 || i > 19) {
                    parts += x.odds(8, i, 0) * ((1L << 24) / x.odds(8, i, 1));
                }
            }
            due("exactly", parts, 1L << 24);
        });
        Edges.edge("What it is", "who has won", () -> {
            due("village 0", Edges.overAhead().rule(1), 20);
            due("village 1", Edges.overBehind().rule(1), 21);
            due("nobody yet", MinuteEdges.sliding(0).over(), 9);
            due("nobody ever", MinuteEdges.swinging().over(), -4);
        });
        Edges.edge("What it is", "games by a seed", () -> {
            KegBrooks x = MinuteEdges.sliding(4);
            due("seed 7", x.play(7, 2, 0), 2);
            due("seed 8", x.play(8, 2, 0), 4);
        });
    }

    private static void best() {
        Edges.edge("What it is", "the best reply minute by minute to the other captain, how few hold it", () -> {
            KegBrooks x = of("cells 9;keg 8;side 0 12 all 0;side 1 2 steady 1;rest 1;hedge 6 1;");
            due("the best", x.reply(0, 3, 0), 5);
            due("minute by minute", x.reply(0, 3, 10) * 100 + x.reply(0, 3, 11) * 10 + x.reply(0, 3, 12), 232);
            due("one holds it", x.hold(0, 8, 20), 1);
        });
        Edges.edge("What it is", "captains each against each, what a hedge is worth", () -> {
            KegBrooks x = of("cells 5;side 0 5 all 0;side 1 3 all 0;hedge 1 1;");
            due("all against all", x.table(0, 0, 1), 1);
            due("half against all", x.table(1, 0, 1), 3);
            due("half against half", x.table(1, 1, 1), 2);
            x.captain(0, 1, 0);
            x.captain(1, 1, 0);
            due("a hedge stops them", x.ahead(1), 2);
            due("which is a cell's worth", x.without(1, 1), 1);
        });
    }

    private static void toldAndRead() {
        Edges.edge("What it is", "who lies of where it was, where it can be now", () -> {
            KegBrooks x = MinuteEdges.sliding(0);
            x.tell(2, 2);
            x.tell(2, 3);
            due("the second one lies", x.lies(), 2);
            due("in no cell both do not", x.where(), 0);
            x.forget(1);
            due("where it can be", x.where(), 1);
        });
        Edges.edge("What it is", "images", () -> {
            KegBrooks x = of("side 0 1 all 0;");
            x.keep(1);
            x.go(1, 0, false);
            due("as it was", x.back(1) * 100 + x.rule(1) * 10 + x.side(0, 0), 21);
        });
        Edges.edge("What it is", "all told in a text, minutes read from sheets whose faults the machine finds.", () -> {
            KegBrooks x = taken("cells 4;room 0 1;slope 1 2;hedge 2 3;keg 0;side 1 4 late 5;fools 0 5;rest 3;break 7;", 9);
            x.sheet(3, 1, 3);
            x.lay(3, 1, 4);
            due("a minute read", x.read(3, 1, 0, 2), 1);
            due("it went", x.rule(4) * 100 + x.rule(1) * 10 + x.side(1, 3), 114);
            due("what the machine finds", x.torn(), 2);
        });
    }

    // ---- the public face

    private static String section(String document, String head) {
        int from = document.indexOf("\n## " + head + "\n");
        if (from < 0) {
            Edges.fail("the document has no section " + head);
            return "";
        }
        int to = document.indexOf("\n## ", from + 1);
        return document.substring(from, to < 0 ? document.length() : to);
    }

    /** The lines of the face that the document tells, without the sign that ends them. */
    private static List<String> faceOf(String document) {
        List<String> face = new ArrayList<>();
        for (String line : section(document, "The public face").split("\n")) {
            if (line.startsWith("    public ")) {
                face.add(line.trim().replaceAll(";$", ""));
            }
        }
        return face;
    }

    /** The public members as the class declares them, in its order. */
    private static List<String> declared(String source) {
        List<String> all = new ArrayList<>();
        for (String line : source.split("\n")) {
            if (line.matches(" +public .*")) {
                all.add(line.trim().replaceAll(" \\{$|;$", ""));
            }
        }
        return all;
    }

    private static void face(String document, String source) {
        List<String> face = faceOf(document);
        List<String> declared = declared(source);
        Edges.edge("The public face", "public final class KegBrooks", () ->
            due("the class", source.contains("\npublic final class KegBrooks {\n") ? 1 : 0, 1));
        for (int k = 0; k < face.size(); k++) {
            String line = face.get(k);
            String there = k < declared.size() ? declared.get(k) : "nothing";
            Edges.edge("The public face", line + ";", () -> due(line + " is " + there, there.equals(line) ? 1 : 0, 1));
        }
        Edges.edge("The public face", "}", () -> due("public members", declared.size(), face.size()));
    }

    private static void promises(String document, String source) {
        List<String> face = faceOf(document);
        Matcher m = Pattern.compile("(?m)^## Promise (\\d+): (.*)\\n\\n(`([^`]*)`:)").matcher(document);
        int number = 0;
        while (m.find()) {
            number++;
            int due = number;
            String told = m.group(1);
            String name = m.group(2);
            String call = m.group(4);
            // The face begins with the constants.
            String there = number < face.size() ? face.get(number) : "nothing";
            Edges.edge("Promise " + told, m.group(3), () -> {
                due("its number", Long.parseLong(told), due);
                due("its call " + call, there.equals("public " + call) ? 1 : 0, 1);
                String named = call.replaceAll("\\(.*", "").replaceAll(".* ", "");
                due("its name " + name, name.equals(due == 1 ? "A new object" : named) ? 1 : 0, 1);
            });
        }
        int all = number;
        Edges.edge("The public face", "}", () -> due("promises", all, face.size() - 1));
    }

    /** What the interface says ahead of calls stands there in the class. */
    private static void heads(String document, String source) {
        Matcher m = Pattern.compile("Ahead of the calls ([^\n]*) the interface says: (----[^\n]*)\\.").matcher(document);
        int heads = 0;
        List<String> calls = new ArrayList<>();
        while (m.find()) {
            heads++;
            String said = m.group(2);
            String[] names = m.group(1).replace("`", "").split(", ");
            calls.addAll(List.of(names));
            Edges.terms(m.group(), () -> {
                int at = source.indexOf("    // " + said + "\n");
                due("the class says " + said, at < 0 ? 0 : 1, 1);
                int end = at < 0 ? -1 : source.indexOf("    // ----", at + 1);
                List<String> there = namesOf(declared(end < 0 ? "" : source.substring(at, end)));
                due("ahead of " + there, there.equals(List.of(names)) ? 1 : 0, 1);
            });
        }
        int all = heads;
        Edges.edge("The public face", "}", () -> {
            due("heads", all, 8);
            List<String> face = namesOf(faceOf(document));
            due("each call has a head", calls.equals(face.subList(Math.min(2, face.size()), face.size())) ? 1 : 0, 1);
        });
    }

    private static List<String> namesOf(List<String> lines) {
        List<String> names = new ArrayList<>();
        for (String line : lines) {
            names.add(line.replaceAll("\\(.*", "").replaceAll(".* ", ""));
        }
        return names;
    }
}

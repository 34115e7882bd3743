/** Edges of the tape, its tokens and faults (Terms), and of promises 2 (feed) to 5 (fault). */
final class TextEdges extends Dues {
    private static final String[] NAMES = {"cells", "room", "slope", "hedge", "keg", "side", "fools", "rest", "break"};
    private static final String[] KINDS = {"all", "half", "steady", "late", "follows"};
    // Each kind of line by its tokens.
    private static final String[][] LINES = {
        {"cells", "7", ";"}, {"room", "2", "11", ";"}, {"slope", "0", "5", ";"}, {"hedge", "3", "8", ";"},
        {"keg", "4", ";"}, {"side", "1", "12", "steady", "10", ";"}, {"fools", "1", "4", ";"}, {"rest", "4", ";"},
        {"break", "6", ";"}};

    private TextEdges() {
    }

    static void all() {
        tape();
        blanks();
        everyByte();
        namesAndNumbers();
        lines();
        lineBounds();
        firstFaultMet();
        faultOne();
        faultTwo();
        faultThree();
        faultFour();
        faultFive();
        takenText();
        feed();
        end();
        text();
        fault();
    }

    private static String blank(int n) {
        return " ".repeat(n);
    }

    private static String joined(String[] tokens, String between) {
        return String.join(between, tokens);
    }

    // ---- the tape and its tokens

    private static void tape() {
        Edges.terms("320 bytes, places from 0.", () -> {
            taken("rest 1;" + blank(313), 1);
            taken(blank(313) + "rest 1;", 1);
            taken(blank(320), 0);
            refusedText("!" + blank(319), 1, 0);
            refusedText(blank(319) + "!", 1, 319);
            refusedText(blank(319) + ";", 2, 319);
            refusedText(blank(314) + "rest 1", 2, 320);
            refusedText("keg 5;" + blank(314), 5, 320);
            KegBrooks x = new KegBrooks();
            feedText(x, blank(320));
            due("320", x.count(2), 320);
            due("one row more", x.feed(0), -3);
        });
    }

    private static void blanks() {
        Edges.terms("TOKENS, each as long as may be, any number of blanks (32) ahead of, between, behind them (one at "
            + "least between two NAMES, between two NUMBERS; else none is needed)", () -> {
            for (String[] line : LINES) {
                String two = joined(line, " ").replaceAll("([a-z]) (?=[0-9])|([0-9]) (?=[a-z])| (?=;)", "$1$2");
                taken(two, 1);
                taken(joined(line, " "), 1);
                taken(joined(line, "  "), 1);
                taken(blank(1) + joined(line, " ") + blank(1), 1);
                taken(blank(9) + joined(line, blank(17)) + blank(40), 1);
            }
            // Without a blank two names are one, and so are two numbers.
            refusedText("restrest 1;", 2, 0);
            refusedText("allrest 1;", 2, 0);
            refusedText("side 0 1 allhalf 1;", 2, 9);
            refusedText("room 12;", 3, 5);
            refusedText("room 1 2 3;", 2, 9);
            refusedText("room 123;", 1, 5);
            refusedText("rest 1 1;", 2, 7);
            refusedText("re st 1;", 2, 0);
            refusedText("rest1 2;", 2, 6);
            refusedText("side 0 1 0 all;", 2, 9);
            due("two figures are one number", taken("side0 12all12;", 1).side(0, 0), 12);
            due("a figure ahead of it, too", taken("side 1 06late05;", 1).side(1, 7), 5);
        });
    }

    private static void everyByte() {
        Edges.terms("NAMES (a .. z), NUMBERS (1 or 2 figures), the sign ; (every other byte is no TOKEN).", () -> {
            for (int sign = 0; sign < 256; sign++) {
                boolean token = sign >= 'a' && sign <= 'z' || sign >= '0' && sign <= '9' || sign == ';';
                oneByte(sign, 1, token);
                boolean part = sign >= '0' && sign <= '9';
                KegBrooks x = new KegBrooks();
                // Behind a number of one figure.
                feedText(x, "break 0" + (char) sign);
                x.feed(0x3B20202020202020L);
                x.end(9);
                int due = part ? sign <= '7' ? 1 : -16 : sign == ' ' ? 1 : sign == ';' ? -18 : -17;
                due("break 0 and byte " + sign, x.text(), due);
                int why = due == 1 ? 0 : part ? 3 : token ? 2 : 1;
                due("fault of it", x.fault(), why);
            }
            refusedText("rest 001;", 1, 5);
            refusedText("rest 100;", 1, 5);
            refusedText("rest 4294967297;", 1, 5);
            refusedText("rest 18446744073709551617;", 1, 5);
            due("one figure", taken("rest 3;", 1).rule(2), 3);
            due("two figures", taken("rest 03;", 1).rule(2), 3);
        });
    }

    /** A byte all by itself, at each of eight places, blanks elsewhere. */
    private static void oneByte(int sign, int least, boolean token) {
        for (int place = 0; place < 8; place++) {
            KegBrooks x = new KegBrooks();
            long v = 0;
            for (int k = 0; k < 8; k++) {
                v = v << 8 | (k == place ? sign : ' ');
            }
            x.feed(v);
            due("byte " + sign + " at " + place, x.text(), sign == ' ' ? 0 : -10 - place);
            due("fault of byte " + sign, x.fault(), sign == ' ' ? 0 : token ? 2 : 1);
        }
    }

    private static void namesAndNumbers() {
        Edges.terms("K: all | half | steady | late | follows", () -> {
            for (int kind = 0; kind < 5; kind++) {
                due(KINDS[kind], taken("side 1 1 " + KINDS[kind] + " 2;", 1).side(1, 6), kind);
                refusedText("side 1 1 " + KINDS[kind] + "s 2;", 2, 9);
                refusedText("side 1 1 " + KINDS[kind].substring(1) + " 2;", 2, 9);
                refusedText("side 1 1 " + KINDS[kind].substring(0, KINDS[kind].length() - 1) + " 2;", 2, 9);
                refusedText(KINDS[kind] + " 2;", 2, 0);
            }
        });
    }

    private static void lines() {
        Edges.terms("text: { line } line: cells N ; | room N N ; | slope N N ; | hedge N N ; | keg N ; | side N N K N ; "
            + "| fools N N ; | rest N ; | break N ;", () -> {
            taken("", 0);
            taken(blank(8), 0);
            StringBuilder all = new StringBuilder();
            for (int n = 0; n < LINES.length; n++) {
                taken(joined(LINES[n], " "), 1);
                all.append(joined(LINES[n], " "));
                taken(all.toString(), n + 1);
                refusedText(NAMES[n] + "s " + joined(LINES[n], " "), 2, 0);
                refusedText(NAMES[n].substring(1) + " 1;", 2, 0);
                refusedText(NAMES[n].substring(0, NAMES[n].length() - 1) + " 1;", 2, 0);
                refusedText("side 1 1 " + NAMES[n] + " 2;", 2, 9);
            }
            refusedText(";", 2, 0);
            refusedText("rest 1;;", 2, 7);
            mostLines();
            everyPrefix(all.toString());
        });
    }

    /** Every line that there may be: 35 of them have room on the tape. */
    private static void mostLines() {
        StringBuilder text = new StringBuilder("cells9;keg8;rest4;break7;side0 1late2;side1 3follows4;fools0 5;fools1 1;");
        for (int i = 0; i < 9; i++) {
            text.append("room").append(i).append(' ').append(12 - i).append(';');
            text.append("slope").append(i).append(' ').append(i % 7).append(';');
            text.append("hedge").append(i).append(' ').append(9 - i).append(';');
        }
        KegBrooks x = taken(text.toString(), 35);
        for (int i = 0; i < 9; i++) {
            due("room " + i, x.cell(i, 0), 12 - i);
            due("slope " + i, x.cell(i, 1), i % 7);
            due("hedge " + i, x.cell(i, 2), 9 - i);
        }
        due("side 0", x.side(0, 0) * 1000 + x.side(0, 6) * 100 + x.side(0, 7) * 10 + x.side(0, 5), 1325);
        due("side 1", x.side(1, 0) * 1000 + x.side(1, 6) * 100 + x.side(1, 7) * 10 + x.side(1, 5), 3441);
        due("keg", x.rule(1), 8);
    }

    /** A text that is cut anywhere: the lines ahead of the cut, or what can not stand there. */
    private static void everyPrefix(String text) {
        int lines = 0;
        int lineStart = 0;
        for (int cut = 1; cut < text.length(); cut++) {
            String part = text.substring(0, cut);
            if (part.endsWith(";")) {
                lines++;
                lineStart = cut;
                taken(part, lines);
                taken(part + "  ", lines);
                continue;
            }
            int nameStart = cut;
            while (nameStart > lineStart && text.charAt(nameStart - 1) >= 'a') {
                nameStart--;
            }
            boolean cutName = nameStart < cut && text.charAt(cut) >= 'a';
            refusedText(part, 2, cutName ? nameStart : cut);
            refusedText(part + "  ", 2, cutName ? nameStart : cut + 2);
        }
    }

    // ---- bounds of numbers

    /** What stands ahead of and behind a number in its line; its least and most. */
    private static void lineBound(String ahead, String behind, int least, int most) {
        for (int v = 0; v <= 99; v++) {
            String text = ahead + v + behind;
            if (v < least || v > most) {
                refusedText(text, 3, ahead.length());
            } else {
                taken(text, text.split(";").length);
            }
        }
        refusedText(ahead + "100" + behind, 1, ahead.length());
        refusedText(ahead + "000" + behind, 1, ahead.length());
    }

    private static void lineBounds() {
        Edges.terms("room, slope, hedge: a CELL (0 to 8), how much.", () -> {
            lineBound("cells 9;room ", " 5;", 0, 8);
            lineBound("cells 9;slope ", " 5;", 0, 8);
            lineBound("cells 9;hedge ", " 5;", 0, 8);
            lineBound("room 0 ", ";", 1, 12);
            lineBound("slope 0 ", ";", 0, 6);
            lineBound("hedge 0 ", ";", 0, 9);
            for (int i = 0; i < 9; i++) {
                KegBrooks x = taken("cells 9;room " + i + " 1;slope " + i + " 6;hedge " + i + " 9;", 4);
                for (int other = 0; other < 9; other++) {
                    due("room", x.cell(other, 0), other == i ? 1 : 12);
                    due("slope", x.cell(other, 1), other == i ? 6 : 3);
                    due("hedge", x.cell(other, 2), other == i ? 9 : 0);
                }
            }
        });
        Edges.terms("keg: its CELL.", () -> {
            lineBound("cells 9;keg ", ";", 0, 8);
            for (int i = 0; i < 9; i++) {
                due("keg " + i, taken("cells 9;keg " + i + ";", 2).rule(1), i);
            }
        });
        Edges.terms("side: which one, FRESH men, its CAPTAIN.", () -> {
            lineBound("side ", " 5 all 5;", 0, 1);
            lineBound("side 0 ", " all 5;", 0, 12);
            lineBound("side 1 ", " all 5;", 0, 12);
            lineBound("side 0 5 late ", ";", 0, 12);
            lineBound("side 1 5 late ", ";", 0, 12);
            for (int v = 0; v <= 12; v++) {
                KegBrooks x = taken("side 0 " + v + " half " + (12 - v) + ";", 1);
                due("fresh", x.side(0, 0), v);
                due("number", x.side(0, 7), 12 - v);
            }
        });
        Edges.terms("fools: of a SIDE.", () -> {
            lineBound("fools ", " 5;", 0, 1);
            lineBound("fools 0 ", ";", 0, 5);
            lineBound("fools 1 ", ";", 0, 5);
            KegBrooks x = taken("fools 1 5;fools 0 0;", 2);
            due("of 0", x.side(0, 5), 0);
            due("of 1", x.side(1, 5), 5);
        });
        Edges.promise(4, "tells all: how many lines", () -> {
            lineBound("cells ", ";", 3, 9);
            lineBound("rest ", ";", 1, 4);
            lineBound("break ", ";", 0, 7);
        });
    }

    // ---- faults

    /** Pieces with a fault each: its number, its place in the piece. */
    private static final String[] PIECES = {"!", "rest 001;", "pie;", "rest;", "side 0 1 pie 0;", "rest 5;", "room 0 13;",
        "keg 1;keg 1;", "slope 1 1;slope 1 1;", "hedge 8 1;"};
    private static final int[] PIECE_FAULTS = {1, 1, 2, 2, 2, 3, 3, 4, 4, 5};
    private static final int[] PIECE_PLACES = {0, 5, 0, 4, 9, 5, 7, 6, 16, 0};

    private static void firstFaultMet() {
        Edges.terms("the first met as it is read (a TOKEN is read when the one before has been taken)", () -> {
            for (int a = 0; a < PIECES.length; a++) {
                for (int b = 0; b < PIECES.length; b++) {
                    if (a == b) {
                        continue;
                    }
                    String text = PIECES[a] + PIECES[b];
                    if (PIECE_FAULTS[a] < 5) {
                        refusedText(text, PIECE_FAULTS[a], PIECE_PLACES[a]);
                    } else {
                        refusedText(text, PIECE_FAULTS[b], PIECES[a].length() + PIECE_PLACES[b]);
                    }
                }
            }
            // What comes behind a token with a fault is not read.
            refusedText("rest 5!", 3, 5);
            refusedText("pie!", 2, 0);
            refusedText("rest 1;rest!", 4, 7);
            refusedText("room 1 1;room 1!", 4, 14);
            refusedText("side 1 1 all 1;side 1!", 4, 20);
            refusedText("fools 1 1;fools 1 999;", 4, 16);
            refusedText("cells 10 123", 3, 6);
            // A token ahead of it is taken, without a fault, and then it is read.
            refusedText("rest!", 1, 4);
            refusedText("rest 1!", 1, 6);
            refusedText("side 0!", 1, 6);
            refusedText("side 0 1 all!", 1, 12);
            refusedText("rest 1;rest 001;", 4, 7);
        });
        everyTokenWrong();
    }

    /** In each line each token is put in turn for a wrong one, with a byte behind that is no token at all. */
    private static void everyTokenWrong() {
        Edges.terms("the first met as it is read", () -> {
            for (String[] line : LINES) {
                StringBuilder ahead = new StringBuilder();
                for (int p = 0; p < line.length; p++) {
                    boolean number = line[p].charAt(0) <= '9';
                    boolean sign = line[p].equals(";");
                    int place = ahead.length();
                    refusedText(ahead + "! !", 1, place);
                    refusedText(ahead + "123 !", 1, place);
                    refusedText(ahead + "zebra !", 2, place);
                    refusedText(ahead + "77 !", number ? 3 : 2, place);
                    if (!sign) {
                        refusedText(ahead + "; !", 2, place);
                    }
                    if (p > 0) {
                        refusedText(ahead.toString(), 2, place);
                        refusedText(ahead + "   ", 2, place + 3);
                    }
                    ahead.append(line[p]).append(' ');
                }
            }
        });
    }

    private static void faultOne() {
        Edges.terms("1 no TOKEN, a NUMBER that is too long (its first byte).", () -> {
            refusedText("!", 1, 0);
            refusedText("   !", 1, 3);
            refusedText("rest 1;  Rest 2;", 1, 9);
            refusedText("rest 123;", 1, 5);
            refusedText("rest    1234;", 1, 8);
            refusedText("rest123", 1, 4);
            refusedText("123", 1, 0);
            refusedText("rest 1;123;", 1, 7);
            refusedText("12!", 2, 0);
        });
    }

    private static void faultTwo() {
        Edges.terms("2 a TOKEN that can not stand there (a NAME that begins no line, is no K; or the end: the length).", () -> {
            refusedText("pie 1;", 2, 0);
            refusedText("rest 1; pie 1;", 2, 8);
            refusedText("side 0 1 pie 1;", 2, 9);
            refusedText("side 0 1  rest 1;", 2, 10);
            refusedText("12;", 2, 0);
            refusedText("rest;", 2, 4);
            refusedText("rest", 2, 4);
            refusedText("rest    ", 2, 8);
            refusedText("rest 1", 2, 6);
            refusedText("rest 1         ", 2, 15);
            refusedText("side 0 1 all 1", 2, 14);
            refusedText("rest 1;cells", 2, 12);
        });
    }

    private static void faultThree() {
        Edges.terms("3 a NUMBER out of its bounds.", () -> {
            refusedText("rest 5;", 3, 5);
            refusedText("rest  0;", 3, 6);
            refusedText("rest 00;", 3, 5);
            refusedText("side 2 1 all 1;", 3, 5);
            refusedText("side 1 13 all 1;", 3, 7);
            refusedText("side 1 12 all 13;", 3, 14);
            refusedText("keg 9;", 3, 4);
            taken("rest 1;", 1);
            taken("rest 4;", 1);
            // Out of its bounds, were it told for the first time or not.
            refusedText("room 1 1;room 9 1;", 3, 14);
        });
    }

    private static void faultFour() {
        Edges.terms("4 cells, keg, rest, break for the second time (its NAME); room, slope, hedge of a CELL, side, fools of "
            + "a SIDE told already (it).", () -> {
            for (String name : new String[] {"cells", "keg", "rest", "break"}) {
                refusedText(name + " 3; " + name + " 3;", 4, name.length() + 4);
                refusedText(name + " 3;" + name + " 4;", 4, name.length() + 3);
                refusedText(name + " 3;" + name + ";", 4, name.length() + 3);
                refusedText(name + " 3;fools 0 1;" + name + " 99;", 4, name.length() + 13);
            }
            for (String name : new String[] {"room", "slope", "hedge"}) {
                for (int i = 0; i < 9; i++) {
                    String line = name + " " + i + " 1;";
                    refusedText("cells 9;" + line + line, 4, 8 + 2 * name.length() + 6);
                    refusedText(line + name + "  " + i + ";", 4, 2 * name.length() + 7);
                    int other = (i + 1) % 9;
                    taken("cells 9;" + line + name + " " + other + " 1;", 3);
                }
            }
            taken("room 2 1;slope 2 1;hedge 2 1;", 3);
            for (int s = 0; s < 2; s++) {
                refusedText("side " + s + " 1 all 1;side " + s + " 2 half 2;", 4, 20);
                refusedText("fools " + s + " 1;fools " + s + " 2;", 4, 16);
            }
            taken("side 1 1 all 1;side 0 1 all 1;fools 0 1;fools 1 1;", 4);
            // Told already, others having been told since.
            for (String name : new String[] {"room", "slope", "hedge"}) {
                String line = name + " 1 1;";
                String others = name + " 0 1;" + name + " 4 1;" + name + " 2 1;";
                refusedText(line + others + line, 4, line.length() + others.length() + name.length() + 1);
                refusedText(others + line + name + " 0 1;", 4, line.length() + others.length() + name.length() + 1);
            }
            refusedText("side 0 1 all 1;side 1 1 all 1;side 0 1 all 1;", 4, 35);
            refusedText("side 1 1 all 1;side 0 1 all 1;side 1 1 all 1;", 4, 35);
            refusedText("fools 0 1;fools 1 1;fools 0 1;", 4, 26);
            refusedText("fools 1 1;fools 0 1;fools 1 1;", 4, 26);
            refusedText("cells 5;keg 1;rest 1;break 1;cells 5;", 4, 29);
            // Each text tells anew.
            KegBrooks x = of("rest 1;room 1 1;side 0 1 all 1;");
            feedText(x, "rest 1;room 1 1;side 0 1 all 1;");
            due("told by another text", x.text(), 3);
            feedText(x, "rest 1;room 1 1;side 0 1 all 1;pie;");
            due("refused", x.text(), -41);
            feedText(x, "rest 2;room 1 2;side 0 2 all 1;");
            due("told by a refused one", x.text(), 3);
        });
    }

    private static void faultFive() {
        Edges.terms("Behind all (the length): 5 a CELL that there is not.", () -> {
            for (int cells = 3; cells <= 8; cells++) {
                String head = "cells " + cells + ";";
                for (String name : new String[] {"room", "slope", "hedge", "keg"}) {
                    String much = name.equals("keg") ? ";" : " 1;";
                    taken(head + name + " " + (cells - 1) + much, 2);
                    taken(name + " " + (cells - 1) + much + head, 2);
                    for (int i = cells; i <= 8; i++) {
                        String line = name + " " + i + much;
                        refusedText(head + line, 5, head.length() + line.length());
                        refusedText(line + head, 5, head.length() + line.length());
                        refusedText(head + line + "  ", 5, head.length() + line.length() + 2);
                        // A fault that is met as it is read is ahead of it.
                        refusedText(head + line + "!", 1, head.length() + line.length());
                    }
                }
            }
            refusedText("room 5 1;", 5, 9);
            refusedText("room 5 1;room 0 1;", 5, 18);
            refusedText("room 0 1;room 5 1;", 5, 18);
            refusedText("keg 5;", 5, 6);
            taken("keg 4;", 1);
            taken("room 8 1;slope 8 1;hedge 8 1;keg 8;cells 9;", 5);
        });
    }

    // ---- what a text does

    private static void takenText() {
        Edges.terms("tells all, in place of what there was (what no line tells is as at first, THE KEG in the middle one of "
            + "CELLS as told)", () -> {
            long[] first = Edges.looks(new KegBrooks());
            for (String text : new String[] {"", "cells 5;", "rest 2;", "side 0 0 all 0;", "room 2 12;"}) {
                KegBrooks x = Edges.busy();
                x.read(3, 0, 0, 0);
                x.end(0);
                feedText(x, text);
                due("text " + text, x.text() >= 0 ? 1 : 0, 1);
                x.sheet(0, 0, 0);
                long[] then = Edges.looks(x);
                for (int k = 0; k < first.length; k++) {
                    // Sheet 0 alone has something, which it had not at first.
                    due("answer " + k + " behind " + text, then[k], first[k] == -4 && then[k] == 0 ? 0 : first[k]);
                }
            }
            int[] middle = {1, 2, 2, 3, 3, 4, 4};
            for (int n = 3; n <= 9; n++) {
                KegBrooks x = Edges.busy();
                x.end(0);
                feedText(x, "rest 3;cells " + n + ";");
                x.text();
                due("the middle of " + n, x.rule(1), middle[n - 3]);
            }
            KegBrooks over = Edges.overAhead();
            over.end(0);
            due("it was over", over.text(), 0);
            due("it is in the middle", over.rule(1), 2);
        });
        Edges.terms("nobody RESTS, nothing is TOLD; IMAGES are gone; SHEETS stay.", () -> {
            KegBrooks x = Edges.busy();
            due("some rest", x.side(0, 1) + x.side(0, 2) + x.side(0, 3) > 0 ? 1 : 0, 1);
            due("told", x.count(0), 3);
            due("images", x.count(1), 2);
            x.end(0);
            feedText(x, "side 0 12 all 0;side 1 12 all 0;");
            due("text", x.text(), 2);
            for (int left = 1; left <= 4; left++) {
                due("who rests for " + left, x.side(0, left) + x.side(1, left), 0);
            }
            due("men", x.count(4) * 100 + x.count(5), 1212);
            due("told then", x.count(0), 0);
            due("none lies", x.lies(), 0);
            due("images then", x.count(1), 0);
            due("image 0", x.back(0), -2);
            due("image 1", x.back(1), -2);
            due("sheet 0", x.count(3), 6);
            due("its cells", x.read(0, 0, 0, 1) * 100 + x.side(0, 2) * 10 + x.side(1, 2), 165);
            due("sheet 1", x.lay(1, 3, 0) * 100 + x.lay(1, 4, 0), 88);
            due("sheet 3 has nothing", x.lay(3, 0, 0), -11);
        });
    }

    private static void feed() {
        Edges.promise(2, "Eight bytes come behind THE TAPE, the highest first: how many it has.", () -> {
            KegBrooks x = new KegBrooks();
            // "rest 3; "
            due("eight", x.feed(0x7265737420333B20L), 8);
            due("they are a text", x.text(), 1);
            due("rest", x.rule(2), 3);
            due("eight on the empty tape", x.feed(0x6B656720303B2020L), 8);
            due("behind them", x.feed(0x627265616B20373BL), 16);
            due("both", x.text(), 2);
            due("the first", x.rule(1), 0);
            due("the second", x.rule(3), 7);
            x.end(0);
            x.feed(0x203B203372657374L);
            due("the lowest is not first", x.text(), -11);
            due("the highest bit", x.feed(Long.MIN_VALUE), 8);
            due("is of a byte that is no token", x.text(), -10);
            x.feed(-1L);
            due("all bits", x.text(), -10);
            x.feed(0x2020202020202000L);
            due("the lowest byte is the last", x.text(), -17);
        });
        Edges.promise(2, "FULL: more than 320.", () -> {
            KegBrooks x = new KegBrooks();
            for (int n = 1; n <= 39; n++) {
                due("row " + n, x.feed(0x2020202020202020L), 8 * n);
            }
            due("row 40", x.feed(0x202020726573743BL), 320);
            due("row 41", x.feed(0x2020202020202020L), -3);
            due("it has 320", x.count(2), 320);
            Edges.refused("full", TextEdges::fullTape, y -> y.feed(0x3B3B3B3B3B3B3B3BL), -3);
            Edges.refused("7 bytes are left", () -> fullBut(7), y -> y.feed(0x3B3B3B3B3B3B3B3BL), -3);
            Edges.refused("1 byte is left", () -> fullBut(1), y -> y.feed(-1), -3);
            KegBrooks y = fullBut(8);
            due("8 bytes are left", y.feed(0x202020202020203BL), 320);
            due("its last byte", y.text(), -329);
            y = fullBut(9);
            due("9 bytes are left", y.feed(0), 319);
            due("one is left then", y.feed(0), -3);
            due("the text", y.text(), -321);
            due("empty again", y.feed(0), 8);
        });
    }

    /** Of 320 bytes, a line at its end. */
    private static KegBrooks fullTape() {
        KegBrooks x = new KegBrooks();
        feedText(x, blank(313) + "rest 4;");
        return x;
    }

    private static KegBrooks fullBut(int left) {
        KegBrooks x = new KegBrooks();
        feedText(x, "rest 4;" + blank(313 - left));
        return x;
    }

    private static void end() {
        Edges.promise(3, "THE TAPE keeps its first n bytes: how many it had.", () -> {
            String text = "rest 3;break 5;";
            for (int n = 0; n <= text.length(); n++) {
                KegBrooks x = new KegBrooks();
                feedText(x, text);
                due("the first " + n, x.end(n), 15);
                due("it has " + n, x.count(2), n);
                int due = n == 0 ? 0 : n < 4 ? -10 : n < 7 ? -10 - n : n == 7 ? 1 : n < 12 ? -17 : n < 15 ? -10 - n : 2;
                due("text of " + n, x.text(), due);
                due("rest of " + n, x.rule(2), n == 7 || n == 15 ? 3 : 2);
                due("break of " + n, x.rule(3), n == 15 ? 5 : 0);
            }
            KegBrooks x = fullTape();
            due("all of a full one", x.end(320), 320);
            due("less one", x.end(319), 320);
            due("is 319", x.end(0), 319);
            due("none", x.end(0), 0);
            feedText(x, "rest 4;");
            x.end(4);
            x.feed(0x20333B2020202020L);
            due("what comes then stands behind what was kept", x.text(), 1);
            due("rest 3", x.rule(2), 3);
        });
        Edges.promise(3, "BAD (n above that, too).", () -> {
            Edges.bounds("nothing", KegBrooks::new, 0, 0, KegBrooks::end);
            Edges.bounds("some bytes", Edges::busy, 0, 13, KegBrooks::end);
            Edges.bounds("all bytes", TextEdges::fullTape, 0, 320, KegBrooks::end);
            Edges.bounds("behind a text", () -> of("rest 4;"), 0, 0, KegBrooks::end);
        });
    }

    private static void text() {
        Edges.promise(4, "THE TAPE (empty then, by a FAULT, too)", () -> {
            KegBrooks x = new KegBrooks();
            due("an empty tape", x.text(), 0);
            feedText(x, "rest 4;");
            due("taken", x.text(), 1);
            due("is empty", x.count(2), 0);
            due("so nothing is told", x.text(), 0);
            due("and all is as at first", x.rule(2), 2);
            for (String text : new String[] {"!", "pie;", "rest 5;", "keg 1;keg 1;", "keg 5;"}) {
                feedText(x, text + blank(20));
                due("refused", x.text() < 0 ? 1 : 0, 1);
                due("is empty by fault " + x.fault(), x.count(2), 0);
                due("has room", x.feed(0x2020202020202020L), 8);
                x.end(0);
            }
        });
        Edges.promise(4, "-10 less the place of its FAULT: that which was told stays.", () -> {
            for (int place = 0; place < 320; place++) {
                KegBrooks x = of("cells 4;keg 3;room 0 7;");
                feedText(x, blank(place) + "!" + blank(319 - place));
                due("at " + place, x.text(), -10 - place);
                due("cells stay", x.rule(0), 4);
                due("the keg stays", x.rule(1), 3);
                due("room stays", x.cell(0, 0), 7);
            }
            // What a refused text told ahead of its fault is not so.
            for (String text : new String[] {"cells 9;keg 8;!", "room 0 1;slope 0 1;hedge 0 1;pie", "rest 4;break 7;rest 9;",
                "side 0 12 half 1;side 1 1 late 1;side 0", "fools 0 1;fools 1 1;keg 7;"}) {
                KegBrooks x = Edges.behind(3);
                long[] before = Edges.looks(x);
                feedText(x, text);
                x.text();
                long[] after = Edges.looks(x);
                for (int k = 0; k < before.length - 1; k++) {
                    due("answer " + k + " behind " + text, after[k], before[k]);
                }
            }
        });
    }

    private static void fault() {
        Edges.promise(5, "The FAULT of the latest text(); 0.", () -> {
            KegBrooks x = new KegBrooks();
            due("ahead of any text", x.fault(), 0);
            x.feed(-1);
            due("of no text yet", x.fault(), 0);
            String[] texts = {"!", "pie;", "rest 5;", "keg 1;keg 1;", "keg 5;"};
            x.end(0);
            for (int f = 1; f <= 5; f++) {
                feedText(x, texts[f - 1]);
                x.text();
                due("the latest", x.fault(), f);
                x.feed(-1);
                x.end(0);
                x.keep(0);
                x.back(0);
                x.go(0, 0, false);
                x.read(3, 0, 0, 1);
                due("stays", x.fault(), f);
            }
            due("nothing told", x.text(), 0);
            due("none", x.fault(), 0);
            feedText(x, "!");
            x.text();
            feedText(x, "rest 1;");
            x.text();
            due("none of a text that is taken", x.fault(), 0);
            Edges.changesNothing("fault()", Edges::busy, KegBrooks::fault);
            due("busy", Edges.busy().fault(), 3);
        });
    }
}

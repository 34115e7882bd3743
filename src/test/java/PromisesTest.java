/** For each promise of the document: ordinary calls, the edges that it names, and wrong ones. */
public final class PromisesTest {
    private static final int MIN = Integer.MIN_VALUE;
    private static final int MAX = Integer.MAX_VALUE;

    private static int passed = 0;
    private static int failed = 0;

    private static void due(String what, long got, long want) {
        if (got == want) {
            passed++;
        } else {
            failed++;
            System.out.println(what + " answered " + got + ", due is " + want);
        }
    }

    /** Feeds a text's bytes and nothing more. */
    private static void feedText(KegBrooks x, String text) {
        int had = x.count(2);
        for (int at = 0; at < text.length(); at += 8) {
            long v = 0;
            for (int k = at; k < at + 8; k++) {
                v = v << 8 | (k < text.length() ? text.charAt(k) : ' ');
            }
            x.feed(v);
        }
        x.end(had + text.length());
    }

    private static KegBrooks of(String text) {
        KegBrooks x = new KegBrooks();
        feedText(x, text);
        if (x.text() < 0) {
            failed++;
            System.out.println("the test's own text is refused: " + text);
        }
        return x;
    }

    private static void text(String text, int answer, int fault) {
        KegBrooks x = new KegBrooks();
        feedText(x, text);
        due("text of '" + text + "'", x.text(), answer);
        due("fault of '" + text + "'", x.fault(), fault);
        due("tape behind '" + text + "'", x.count(2), 0);
    }

    /** A fault at a place, told in a text. */
    private static void faulty(String text, int fault, int place) {
        text(text, -10 - place, fault);
    }

    public static void main(String[] args) {
        newObject();
        feed();
        end();
        textTaken();
        textTokens();
        textPlaces();
        textBounds();
        textTwice();
        textCells();
        fault();
        rule();
        cell();
        side();
        ground();
        fool();
        men();
        captain();
        rest();
        breaks();
        put();
        sends();
        net();
        go();
        goOverAndBreaks();
        goRests();
        goFull();
        ahead();
        over();
        odds();
        mean();
        reply();
        replyFirstByNumbers();
        hold();
        table();
        without();
        tell();
        forget();
        lies();
        where();
        play();
        keepAndBack();
        sheet();
        lay();
        read();
        readRefused();
        torn();
        count();
        refusedChangesNothing();
        System.out.println("PromisesTest: " + passed + " passed, " + failed + " failed");
        if (failed > 0) {
            System.exit(1);
        }
    }

    private static void newObject() {
        KegBrooks x = new KegBrooks();
        due("1 cells", x.rule(0), 5);
        due("1 keg", x.rule(1), 2);
        due("1 rest", x.rule(2), 2);
        due("1 break", x.rule(3), 0);
        due("1 minute", x.rule(4), 0);
        for (int i = 0; i < 5; i++) {
            due("1 room " + i, x.cell(i, 0), 12);
            due("1 slope " + i, x.cell(i, 1), 3);
            due("1 hedge " + i, x.cell(i, 2), 0);
        }
        for (int what = 0; what < 8; what++) {
            due("1 side 0 " + what, x.side(0, what), 0);
            due("1 side 1 " + what, x.side(1, what), 0);
        }
        due("1 told", x.count(0), 0);
        due("1 images", x.count(1), 0);
        due("1 tape", x.count(2), 0);
        due("1 fault", x.fault(), 0);
        due("1 torn", x.torn(), 0);
        for (int k = 0; k < 4; k++) {
            due("1 sheet " + k, x.lay(k, 0, 0), -11);
        }
    }

    private static void feed() {
        KegBrooks x = new KegBrooks();
        // "rest 3; "
        due("2 first", x.feed(0x7265737420333B20L), 8);
        due("2 taken", x.text(), 1);
        due("2 rest", x.rule(2), 3);
        for (int n = 1; n <= 40; n++) {
            due("2 feed " + n, x.feed(0x2020202020202020L), 8 * n);
        }
        due("2 full", x.feed(0), -3);
        due("2 full again", x.feed(-1), -3);
        due("2 it has", x.count(2), 320);
        x.end(313);
        due("2 seven are too few", x.feed(0), -3);
        x.end(312);
        due("2 eight are enough", x.feed(0x7265737420343B20L), 320);
        due("2 all the tape", x.text(), 1);
        due("2 rest behind 312 blanks", x.rule(2), 4);
        x.feed(-1L);
        due("2 bytes above 127 are no tokens", x.text(), -10);
        due("2 fault", x.fault(), 1);
    }

    private static void end() {
        KegBrooks x = new KegBrooks();
        due("3 nothing", x.end(0), 0);
        due("3 above nothing", x.end(1), -1);
        x.feed(0x7265737420333B20L);
        due("3 above", x.end(9), -1);
        due("3 below", x.end(-1), -1);
        due("3 MIN", x.end(MIN), -1);
        due("3 MAX", x.end(MAX), -1);
        due("3 all", x.end(8), 8);
        due("3 seven", x.end(7), 8);
        due("3 had seven", x.count(2), 7);
        due("3 four", x.end(4), 7);
        due("3 text", x.text(), -14);
    }

    private static void textTaken() {
        KegBrooks x = of("cells 7;room 6 5;slope 0 6;hedge 6 9;hedge 2 4;keg 6;side 1 12 late 12;side 0 0 follows 7;"
            + "fools 0 5;fools 1 2;rest 4;break 7;");
        due("4 cells", x.rule(0), 7);
        due("4 keg", x.rule(1), 6);
        due("4 rest", x.rule(2), 4);
        due("4 break", x.rule(3), 7);
        due("4 room 6", x.cell(6, 0), 5);
        due("4 room 5", x.cell(5, 0), 12);
        due("4 slope 0", x.cell(0, 1), 6);
        due("4 slope 1", x.cell(1, 1), 3);
        due("4 hedge 2", x.cell(2, 2), 4);
        due("4 hedge 6", x.cell(6, 2), 9);
        due("4 hedge 0", x.cell(0, 2), 0);
        due("4 fresh 0", x.side(0, 0), 0);
        due("4 fresh 1", x.side(1, 0), 12);
        due("4 fools 0", x.side(0, 5), 5);
        due("4 fools 1", x.side(1, 5), 2);
        due("4 kind 0", x.side(0, 6), 4);
        due("4 number 0", x.side(0, 7), 7);
        due("4 kind 1", x.side(1, 6), 3);
        due("4 number 1", x.side(1, 7), 12);
        textReplacesAll();
        for (int cells = 3; cells <= 9; cells++) {
            KegBrooks y = of("cells " + cells + ";");
            due("4 keg in the middle of " + cells, y.rule(1), cells / 2);
        }
        String[] kinds = {"all", "half", "steady", "late", "follows"};
        for (int kind = 0; kind < 5; kind++) {
            due("4 " + kinds[kind], of("side 1 1 " + kinds[kind] + " 2;").side(1, 6), kind);
        }
        text("", 0, 0);
        text("     ", 0, 0);
        text("keg 8;cells 9;", 2, 0);
    }

    private static void textReplacesAll() {
        KegBrooks x = of("cells 3;side 0 6 steady 3;rest 4;break 2;room 1 3;");
        x.go(3, 0, false);
        x.keep(0);
        x.tell(0, 1);
        x.sheet(0, 2, 3);
        feedText(x, "rest 9;");
        due("4 refused", x.text(), -15);
        due("4 what was told stays", x.rule(0), 3);
        due("4 minute stays", x.rule(4), 1);
        due("4 who rests stays", x.side(0, 4), 3);
        due("4 told stays", x.count(0), 1);
        due("4 images stay", x.count(1), 1);
        feedText(x, "hedge 1 1;");
        due("4 taken", x.text(), 1);
        due("4 cells as at first", x.rule(0), 5);
        due("4 keg as at first", x.rule(1), 2);
        due("4 rest as at first", x.rule(2), 2);
        due("4 break as at first", x.rule(3), 0);
        due("4 minute as at first", x.rule(4), 0);
        due("4 room as at first", x.cell(1, 0), 12);
        due("4 nobody", x.count(4), 0);
        due("4 captain as at first", x.side(0, 6), 0);
        due("4 number as at first", x.side(0, 7), 0);
        due("4 nothing is told", x.count(0), 0);
        due("4 images are gone", x.count(1), 0);
        due("4 image 0 is gone", x.back(0), -2);
        due("4 sheets stay", x.count(3), 3);
        feedText(x, "cells 3;room 1 1;slope 1 1;side 0 4 half 4;side 1 5 late 5;fools 0 3;fools 1 4;");
        due("4 other lines", x.text(), 7);
        x.men(1, 6);
        x.go(0, 0, false);
        due("4 nothing at all", x.text(), 0);
        for (int what = 0; what < 8; what++) {
            due("4 side 0 as at first " + what, x.side(0, what), 0);
            due("4 side 1 as at first " + what, x.side(1, what), 0);
        }
        due("4 room as at first, again", x.cell(1, 0), 12);
        due("4 slope as at first", x.cell(1, 1), 3);
        feedText(x, "cells 4;");
        due("4 cells anew", x.text(), 1);
        feedText(x, "cells 6;");
        due("4 cells anew, again", x.text(), 1);
        due("4 six", x.rule(0), 6);
        x.go(0, 0, false);
        x.text();
        due("4 a text of no lines tells all", x.rule(4), 0);
        due("4 hedge as at first", x.cell(1, 2), 0);
    }

    private static void textTokens() {
        text("  rest   3  ;  ", 1, 0);
        text("rest3;", 1, 0);
        text("side 0 06late05;rest 04;", 2, 0);
        text("side0 6all 0;", 1, 0);
        faulty("side06all 0;", 3, 4);
        faulty("rest 001;", 1, 5);
        faulty("rest 100;", 1, 5);
        faulty("100", 1, 0);
        faulty("rest 99999999999;", 1, 5);
        faulty("Rest 1;", 1, 0);
        faulty("rest\t1;", 1, 4);
        faulty("rest 1;\n", 1, 7);
        faulty("rest 1:", 1, 6);
        faulty("rest -1;", 1, 5);
        faulty("rest 1;`", 1, 7);
        faulty("rest 1;{", 1, 7);
        faulty("rest 1/;", 1, 6);
        faulty("rest 1;\u0000", 1, 7);
        faulty("rest 1;\u00e1", 1, 7);
        // A token is read when the one before has been taken.
        faulty("rest 5!", 3, 5);
        faulty("pie !", 2, 0);
        faulty("rest 1;rest!", 4, 7);
        faulty("rest !", 1, 5);
        faulty("room 9 !", 3, 5);
        faulty("room !", 1, 5);
        faulty("side 0 1 !", 1, 9);
        faulty("keg 9;!", 3, 4);
    }

    private static void textPlaces() {
        faulty("pie;", 2, 0);
        faulty("rests 1;", 2, 0);
        faulty("z 1;", 2, 0);
        faulty("jazz 1;", 2, 0);
        faulty("res 1;", 2, 0);
        faulty("cell 5;", 2, 0);
        faulty("restrest 1;", 2, 0);
        faulty("all 1;", 2, 0);
        faulty(";", 2, 0);
        faulty(" 12;", 2, 1);
        faulty("rest", 2, 4);
        faulty("rest  ", 2, 6);
        faulty("rest;", 2, 4);
        faulty("rest rest 1;", 2, 5);
        faulty("rest 1", 2, 6);
        faulty("rest 1  ", 2, 8);
        faulty("rest 1 2;", 2, 7);
        faulty("rest 1 rest 2;", 2, 7);
        faulty("rest 1;;", 2, 7);
        faulty("room 1;", 2, 6);
        faulty("room 1 2 3;", 2, 9);
        faulty("side 0 1 drunk 0;", 2, 9);
        faulty("side 0 1 al 0;", 2, 9);
        faulty("side 0 1 cells 0;", 2, 9);
        faulty("side 0 1 2 0;", 2, 9);
        faulty("side 0 1 ;", 2, 9);
        faulty("side 0 1 all;", 2, 12);
        faulty("side 0 1 all", 2, 12);
        faulty("side 0 1 all all 0;", 2, 13);
        faulty("side 0 all 0;", 2, 7);
        faulty("fools 0;", 2, 7);
        faulty("rest 1;cells", 2, 12);
        faulty("cells cells 3;", 2, 6);
    }

    private static void textBounds() {
        String[] ahead = {"cells ", "room ", "room 0 ", "slope ", "slope 0 ", "hedge ", "hedge 0 ", "keg ",
            "side ", "side 0 ", "side 0 1 all ", "fools ", "fools 0 ", "rest ", "break "};
        String[] behind = {";", " 1;", ";", " 1;", ";", " 1;", ";", ";",
            " 1 all 0;", " all 0;", ";", " 1;", ";", ";", ";"};
        int[] least = {3, 0, 1, 0, 0, 0, 0, 0, 0, 0, 0, 0, 0, 1, 0};
        int[] most = {9, 8, 12, 8, 6, 8, 9, 8, 1, 12, 12, 1, 5, 4, 7};
        for (int n = 0; n < ahead.length; n++) {
            // Nine cells, where the line itself does not tell how many.
            String first = n == 0 ? "" : "cells 9;";
            int lines = n == 0 ? 1 : 2;
            int place = first.length() + ahead[n].length();
            text(first + ahead[n] + least[n] + behind[n], lines, 0);
            text(first + ahead[n] + most[n] + behind[n], lines, 0);
            faulty(first + ahead[n] + (most[n] + 1) + behind[n], 3, place);
            faulty(first + ahead[n] + "99" + behind[n], 3, place);
            if (least[n] > 0) {
                faulty(first + ahead[n] + (least[n] - 1) + behind[n], 3, place);
            }
        }
    }

    private static void textTwice() {
        faulty("cells 3;cells 3;", 4, 8);
        faulty("keg 1;keg 1;", 4, 6);
        faulty("rest 1;rest 1;", 4, 7);
        faulty("break 1;break 1;", 4, 8);
        faulty("room 3 1;room 3 2;", 4, 14);
        faulty("slope 3 1;slope 3 2;", 4, 16);
        faulty("hedge 3 1;hedge 3 2;", 4, 16);
        faulty("side 0 1 all 0;side 0 1 all 0;", 4, 20);
        faulty("fools 1 1;fools 1 1;", 4, 16);
        faulty("room 3 1;room 3 99;", 4, 14);
        text("room 3 1;room 4 1;slope 3 1;hedge 3 1;", 4, 0);
        text("side 0 1 all 0;side 1 1 all 0;fools 0 1;fools 1 1;", 4, 0);
        // What a refused text told is forgotten.
        KegBrooks x = new KegBrooks();
        feedText(x, "rest 1;pie;");
        x.text();
        feedText(x, "rest 3;");
        due("4 once more", x.text(), 1);
    }

    private static void textCells() {
        faulty("room 5 1;", 5, 9);
        faulty("slope 5 1;", 5, 10);
        faulty("hedge 5 1;", 5, 10);
        faulty("keg 5;", 5, 6);
        faulty("keg 5; ", 5, 7);
        faulty("keg 3;cells 3;", 5, 14);
        faulty("keg 2;room 8 1;cells 8;", 5, 23);
        text("room 4 1;slope 4 1;hedge 4 1;keg 4;", 4, 0);
        text("keg 2;cells 3;", 2, 0);
        faulty("keg 5;pie", 2, 6);
    }

    private static void fault() {
        KegBrooks x = new KegBrooks();
        due("5 at first", x.fault(), 0);
        feedText(x, "keg 5;");
        x.text();
        due("5 latest", x.fault(), 5);
        due("5 asked again", x.fault(), 5);
        x.feed(0);
        x.end(0);
        due("5 stays till the next text", x.fault(), 5);
        x.text();
        due("5 none", x.fault(), 0);
    }

    private static void rule() {
        KegBrooks x = of("cells 6;keg 4;rest 3;break 5;");
        x.go(0, 0, false);
        long[] want = {6, 4, 3, 5, 1};
        for (int what = 0; what < 5; what++) {
            due("6 rule " + what, x.rule(what), want[what]);
        }
        due("6 above", x.rule(5), -1);
        due("6 below", x.rule(-1), -1);
        due("6 MIN", x.rule(MIN), -1);
        due("6 MAX", x.rule(MAX), -1);
    }

    private static void cell() {
        KegBrooks x = of("cells 4;room 3 7;slope 3 2;hedge 3 8;room 0 9;slope 0 4;hedge 0 1;");
        due("7 room", x.cell(3, 0), 7);
        due("7 slope", x.cell(3, 1), 2);
        due("7 hedge", x.cell(3, 2), 8);
        due("7 room 0", x.cell(0, 0), 9);
        due("7 slope 0", x.cell(0, 1), 4);
        due("7 hedge 0", x.cell(0, 2), 1);
        due("7 no cell", x.cell(4, 0), -1);
        due("7 no cell below", x.cell(-1, 0), -1);
        due("7 what above", x.cell(0, 3), -1);
        due("7 what below", x.cell(0, -1), -1);
        due("7 MIN", x.cell(MIN, MIN), -1);
        due("7 MAX", x.cell(MAX, MAX), -1);
        due("7 over", x.cell(20, 0), -1);
        due("7 the last of nine", of("cells 9;").cell(8, 0), 12);
        due("7 behind nine", of("cells 9;").cell(9, 0), -1);
    }

    private static void side() {
        KegBrooks x = of("side 0 12 steady 9;fools 0 4;side 1 5 follows 8;fools 1 1;rest 4;");
        x.go(1, 5, false);
        x.rest(1);
        x.go(2, 0, false);
        long[] zero = {9, 2, 0, 1, 0, 4, 2, 9};
        long[] one = {0, 0, 0, 5, 0, 1, 4, 8};
        for (int what = 0; what < 8; what++) {
            due("8 side 0 " + what, x.side(0, what), zero[what]);
            due("8 side 1 " + what, x.side(1, what), one[what]);
        }
        due("8 what above", x.side(0, 8), -1);
        due("8 what below", x.side(0, -1), -1);
        due("8 side above", x.side(2, 0), -1);
        due("8 side below", x.side(-1, 0), -1);
        due("8 MAX", x.side(MAX, MAX), -1);
        due("8 MIN", x.side(MIN, MIN), -1);
    }

    private static void ground() {
        KegBrooks x = new KegBrooks();
        int[] least = {1, 0, 0};
        int[] most = {12, 6, 9};
        int[] first = {12, 3, 0};
        for (int what = 0; what < 3; what++) {
            String name = (9 + what) + " ";
            due(name + "least", ground(x, what, 4, least[what]), first[what]);
            due(name + "is least", x.cell(4, what), least[what]);
            due(name + "most", ground(x, what, 4, most[what]), least[what]);
            due(name + "is most", x.cell(4, what), most[what]);
            due(name + "below", ground(x, what, 4, least[what] - 1), -1);
            due(name + "above", ground(x, what, 4, most[what] + 1), -1);
            due(name + "MIN", ground(x, what, MIN, MIN), -1);
            due(name + "MAX", ground(x, what, 4, MAX), -1);
            due(name + "no cell", ground(x, what, 5, 1), -1);
            due(name + "no cell below", ground(x, what, -1, 1), -1);
            due(name + "over", ground(x, what, 20, 1), -1);
            due(name + "stays", x.cell(4, what), most[what]);
            due(name + "of others stays", x.cell(3, what), first[what]);
            due(name + "first cell", ground(x, what, 0, 2), first[what]);
            due(name + "is 2", x.cell(0, what), 2);
        }
    }

    private static int ground(KegBrooks x, int what, int i, int v) {
        return what == 0 ? x.room(i, v) : what == 1 ? x.slope(i, v) : x.hedge(i, v);
    }

    private static void fool() {
        KegBrooks x = new KegBrooks();
        due("12 five", x.fool(1, 5), 0);
        due("12 none", x.fool(1, 0), 5);
        due("12 three", x.fool(0, 3), 0);
        due("12 above", x.fool(0, 6), -1);
        due("12 below", x.fool(0, -1), -1);
        due("12 no side", x.fool(2, 1), -1);
        due("12 no side below", x.fool(-1, 1), -1);
        due("12 is", x.side(0, 5), 3);
        due("12 is of 1", x.side(1, 5), 0);
    }

    private static void men() {
        KegBrooks x = new KegBrooks();
        due("13 twelve", x.men(0, 12), 0);
        due("13 above", x.men(0, 13), -1);
        due("13 below", x.men(0, -1), -1);
        due("13 MAX", x.men(0, MAX), -1);
        due("13 MIN", x.men(0, MIN), -1);
        due("13 no side", x.men(2, 1), -1);
        due("13 no side below", x.men(-1, 1), -1);
        due("13 is", x.side(0, 0), 12);
        due("13 ten", x.men(0, 10), 12);
        x.put(4);
        x.go(4, 0, false);
        due("13 four rest", x.men(0, 9), -1);
        due("13 is as it was", x.side(0, 0), 6);
        due("13 eight and four", x.men(0, 8), 6);
        due("13 twelve men", x.count(4), 12);
        due("13 none", x.men(0, 0), 8);
        due("13 four men", x.count(4), 4);
        due("13 the other side", x.men(1, 12), 0);
        KegBrooks y = of("side 1 8 all 0;rest 4;");
        y.go(0, 5, false);
        due("13 who rests for 4 counts", y.men(1, 8), -1);
        due("13 seven do", y.men(1, 7), 3);
        due("13 all of them", y.count(5), 12);
    }

    private static void captain() {
        KegBrooks x = new KegBrooks();
        due("14 follows", x.captain(0, 4, 12), 0);
        due("14 late", x.captain(0, 3, 0), 4);
        due("14 of 1", x.captain(1, 1, 7), 0);
        due("14 kind above", x.captain(0, 5, 0), -1);
        due("14 kind below", x.captain(0, -1, 0), -1);
        due("14 number above", x.captain(0, 0, 13), -1);
        due("14 number below", x.captain(0, 0, -1), -1);
        due("14 no side", x.captain(2, 0, 0), -1);
        due("14 no side below", x.captain(-1, 0, 0), -1);
        due("14 is", x.side(0, 6), 3);
        due("14 number is", x.side(0, 7), 0);
        due("14 is of 1", x.side(1, 6), 1);
        due("14 number is of 1", x.side(1, 7), 7);
    }

    private static void rest() {
        KegBrooks x = new KegBrooks();
        x.men(0, 6);
        due("15 four", x.rest(4), 2);
        due("15 above", x.rest(5), -1);
        due("15 below", x.rest(0), -1);
        due("15 MIN", x.rest(MIN), -1);
        x.go(2, 0, false);
        due("15 one", x.rest(1), 4);
        due("15 who rests does so as it was", x.side(0, 4), 2);
        x.go(1, 0, false);
        due("15 who was sent then", x.side(0, 1), 1);
        due("15 who was sent ahead", x.side(0, 3), 2);
        due("15 is", x.rule(2), 1);
    }

    private static void breaks() {
        KegBrooks x = new KegBrooks();
        due("16 seven", x.breaks(7), 0);
        due("16 above", x.breaks(8), -1);
        due("16 below", x.breaks(-1), -1);
        due("16 is", x.rule(3), 7);
        due("16 none", x.breaks(0), 7);
        due("16 is none", x.rule(3), 0);
    }

    private static void put() {
        KegBrooks x = new KegBrooks();
        due("17 last", x.put(4), 2);
        due("17 first", x.put(0), 4);
        due("17 above", x.put(5), -1);
        due("17 below", x.put(-1), -1);
        due("17 over", x.put(20), -1);
        due("17 over behind", x.put(21), -1);
        due("17 is", x.rule(1), 0);
        x.men(0, 1);
        due("17 goes", x.go(1, 0, false), 20);
        due("17 from over", x.put(3), 20);
        due("17 is again", x.rule(1), 3);
        due("17 the minute is as it was", x.rule(4), 1);
        due("17 a minute goes", x.go(0, 0, false), 3);
    }

    private static void sends() {
        KegBrooks x = of("cells 5;side 0 7 all 0;side 1 5 all 0;");
        due("18 all", x.sends(0), 7);
        x.captain(0, 1, 0);
        due("18 half", x.sends(0), 3);
        x.captain(0, 2, 4);
        due("18 steady", x.sends(0), 4);
        x.captain(0, 2, 7);
        due("18 steady, just all", x.sends(0), 7);
        x.captain(0, 2, 8);
        due("18 steady, too few", x.sends(0), 7);
        x.captain(0, 2, 0);
        due("18 steady, nobody", x.sends(0), 0);
        x.captain(0, 4, 0);
        due("18 follows fewer", x.sends(0), 5);
        x.captain(1, 4, 0);
        due("18 follows more", x.sends(1), 5);
        int[] late = {0, 0, 7, 7, 7};
        int[] lateOfOne = {5, 5, 5, 0, 0};
        x.captain(0, 3, 3);
        x.captain(1, 3, 3);
        for (int i = 0; i < 5; i++) {
            x.put(i);
            due("18 late 0 in " + i, x.sends(0), late[i]);
            due("18 late 1 in " + i, x.sends(1), lateOfOne[i]);
        }
        x.captain(0, 3, 0);
        x.captain(1, 3, 0);
        x.put(4);
        due("18 late by 0", x.sends(0), 0);
        x.put(0);
        due("18 late 1 by 0", x.sends(1), 0);
        x.captain(0, 3, 12);
        due("18 late by 12", x.sends(0), 7);
        due("18 no side", x.sends(2), -1);
        due("18 no side below", x.sends(-1), -1);
        x.go(1, 0, false);
        due("18 it is over", x.sends(0), -2);
        due("18 no side, over", x.sends(2), -1);
        x.put(2);
        x.captain(0, 0, 0);
        due("18 fresh ones alone", x.sends(0), 6);
    }

    private static void net() {
        KegBrooks x = of("cells 5;side 0 8 all 0;side 1 10 all 0;");
        due("19 nobody", x.net(0, 0), 100);
        due("19 all", x.net(8, 10), 102);
        due("19 of 0", x.net(8, 0), 92);
        due("19 of 1", x.net(0, 10), 110);
        due("19 more of 0", x.net(9, 0), -1);
        due("19 more of 1", x.net(0, 11), -1);
        due("19 below of 0", x.net(-1, 0), -1);
        due("19 below of 1", x.net(0, -1), -1);
        due("19 MAX", x.net(MAX, MAX), -1);
        due("19 MIN", x.net(MIN, MIN), -1);
        x.room(2, 3);
        due("19 room", x.net(8, 2), 99);
        due("19 room of 1", x.net(1, 10), 102);
        x.fool(0, 2);
        due("19 fools of what can act", x.net(8, 0), 99);
        due("19 fools above those sent", x.net(1, 0), 100);
        x.fool(1, 1);
        due("19 fools of 1", x.net(0, 3), 102);
        x.slope(2, 0);
        due("19 slope 0", x.net(0, 0), 97);
        x.slope(2, 6);
        due("19 slope 6", x.net(0, 0), 103);
        x.put(3);
        due("19 of the keg's cell", x.net(0, 10), 109);
        due("19 changes nothing", x.rule(4), 0);
        x.put(4);
        x.go(0, 10, false);
        due("19 it is over", x.net(0, 0), -2);
        due("19 too many, over", x.net(9, 0), -1);
    }

    private static void go() {
        KegBrooks x = of("cells 5;side 0 12 all 0;side 1 12 all 0;hedge 1 3;hedge 2 2;hedge 4 9;hedge 0 9;rest 1;");
        due("20 as high as the hedge behind", x.go(0, 2, false), 2);
        due("20 above the hedge behind", x.go(0, 3, false), 3);
        due("20 ahead over the same hedge", x.go(2, 0, false), 3);
        due("20 ahead above it", x.go(3, 0, false), 2);
        due("20 as high as the hedge ahead", x.go(3, 0, false), 2);
        due("20 above the hedge ahead", x.go(4, 0, false), 1);
        due("20 nobody", x.go(0, 0, false), 1);
        due("20 minutes", x.rule(4), 7);
        x.put(4);
        due("20 of the last one none counts", x.go(0, 1, false), 21);
        x.put(0);
        due("20 from the first none is ahead", x.go(1, 0, false), 20);
        due("20 over", x.go(0, 0, false), -2);
        due("20 too many, over", x.go(13, 0, false), -1);
        x.put(4);
        due("20 a slope moves it", x.slope(4, 4), 3);
        due("20 by itself", x.go(0, 0, false), 21);
        x.put(2);
        due("20 more of 0", x.go(x.side(0, 0) + 1, 0, false), -1);
        due("20 more of 1", x.go(0, x.side(1, 0) + 1, false), -1);
        due("20 below", x.go(-1, 0, false), -1);
        due("20 below of 1", x.go(0, -1, false), -1);
        due("20 MIN", x.go(MIN, MIN, true), -1);
        due("20 refused ones are no minutes", x.rule(4), 10);
    }

    private static void goOverAndBreaks() {
        KegBrooks x = of("cells 5;side 0 12 all 0;side 1 12 all 0;hedge 0 9;hedge 3 9;hedge 2 1;rest 1;");
        due("20 breaks out over any hedge", x.go(0, 2, true), 4);
        x.put(2);
        due("20 breaks out ahead", x.go(1, 0, true), 0);
        x.put(2);
        due("20 stays, whoever breaks out", x.go(0, 1, true), 2);
        x.put(1);
        x.hedge(0, 0);
        due("20 breaks out over the brook", x.go(1, 0, true), 20);
        x.put(3);
        x.hedge(3, 0);
        due("20 breaks out over the other", x.go(0, 1, true), 21);
        x.put(4);
        due("20 over at once", x.go(0, 1, true), 21);
        x.put(0);
        due("20 over at once ahead", x.go(1, 0, true), 20);
        x.put(4);
        due("20 nobody moves it", x.go(0, 0, true), 4);
    }

    private static void goRests() {
        for (int rest = 1; rest <= 4; rest++) {
            KegBrooks x = of("cells 9;keg 8;side 0 12 all 0;rest " + rest + ";");
            x.go(1, 0, false);
            for (int m = rest; m >= 1; m--) {
                due("20 rests " + rest + " at " + m, x.side(0, m), 1);
                due("20 fresh " + rest + " at " + m, x.side(0, 0), 11);
                x.go(0, 0, false);
            }
            due("20 fresh behind " + rest, x.side(0, 0), 12);
        }
        KegBrooks x = of("cells 9;keg 0;side 1 12 all 0;rest 3;");
        x.go(0, 1, false);
        x.go(0, 2, false);
        x.go(0, 3, false);
        due("20 one of 1", x.side(1, 1), 1);
        due("20 two of 1", x.side(1, 2), 2);
        due("20 three of 1", x.side(1, 3), 3);
        x.rest(1);
        due("20 two and four", x.go(0, 4, false), 4);
        due("20 together", x.side(1, 1), 6);
        due("20 fresh of 1", x.side(1, 0), 3);
    }

    private static void goFull() {
        KegBrooks x = new KegBrooks();
        x.sheet(0, 0, 40);
        for (int n = 0; n < 49; n++) {
            due("38 twenty", x.read(0, 0, 0, 20), 20);
        }
        due("38 eighteen", x.read(0, 0, 0, 18), 18);
        due("20 minute 998", x.rule(4), 998);
        due("38 the 1000th in a sheet", x.read(0, 0, 0, 2), -21);
        due("38 none went", x.rule(4), 998);
        due("20 the 999th", x.go(0, 0, false), 2);
        due("20 minute 999", x.rule(4), 999);
        due("20 the 1000th", x.go(0, 0, false), -3);
        due("20 bad ahead of full", x.go(1, 0, false), -1);
        due("38 the 1000th at once", x.read(0, 0, 0, 1), -20);
        due("20 minute stays", x.rule(4), 999);
        x.slope(2, 4);
        due("21 looks beyond the 999th", x.ahead(5), 3);
    }

    private static void ahead() {
        KegBrooks x = of("cells 9;keg 8;side 0 12 steady 1;rest 1;");
        due("21 now", x.ahead(0), 8);
        due("21 one", x.ahead(1), 7);
        due("21 two", x.ahead(2), 6);
        due("21 eight", x.ahead(8), 0);
        due("21 nine", x.ahead(9), 20);
        due("21 over stays", x.ahead(60), 20);
        due("21 above", x.ahead(61), -1);
        due("21 below", x.ahead(-1), -1);
        due("21 MAX", x.ahead(MAX), -1);
        due("21 nothing changes", x.rule(1), 8);
        due("21 nor the minute", x.rule(4), 0);
        due("21 nor the men", x.side(0, 0), 12);
        x.breaks(7);
        due("21 without breaks", x.ahead(1), 7);
        x.put(0);
        x.go(1, 0, false);
        due("21 it is over", x.ahead(3), 20);
        due("21 it is over now", x.ahead(0), 20);
    }

    private static void over() {
        KegBrooks x = of("cells 9;keg 8;side 0 12 steady 1;rest 1;");
        due("22 nine", x.over(), 9);
        x.put(0);
        due("22 one", x.over(), 1);
        x.captain(0, 2, 0);
        due("22 none", x.over(), -4);
        x.go(1, 0, false);
        due("22 already", x.over(), 0);
        lastMinutesThatCount();
    }

    /** Found by search: fields in which it takes 60 and 61 minutes. */
    private static void lastMinutesThatCount() {
        KegBrooks x = of("cells 9;keg 4;side 0 12 half 9;side 1 12 late 8;rest 4;slope 6 4;hedge 7 1;");
        x.go(3, 2, false);
        x.put(4);
        x.go(7, 5, false);
        x.put(4);
        due("22 the 60th", x.over(), 60);
        due("22 not yet in the 59th", within(x.ahead(59), 0, 8), 1);
        due("22 behind the 60th", within(x.ahead(60), 20, 21), 1);
        x.go(x.sends(0), x.sends(1), false);
        due("22 one less", x.over(), 59);
        KegBrooks y = of("cells 9;keg 0;side 0 7 half 9;side 1 10 all 7;rest 4;room 0 2;slope 0 4;hedge 0 1;hedge 1 1;"
            + "hedge 2 1;hedge 3 2;hedge 4 1;hedge 5 1;hedge 6 3;hedge 7 3;");
        y.put(4);
        y.go(6, 1, false);
        y.put(0);
        due("22 the 61st", y.over(), -4);
        y.go(y.sends(0), y.sends(1), false);
        due("22 was the 61st", y.over(), 60);
    }

    private static int within(int v, int least, int most) {
        return v >= least && v <= most ? 1 : 0;
    }

    private static void odds() {
        // One man each minute, BREAK 2: 6 of 8 for one cell, 2 of 8 for two.
        KegBrooks x = of("cells 5;keg 3;side 0 12 steady 1;rest 1;break 2;");
        due("23 now", x.odds(0, 3, 0), 1);
        due("23 now, below", x.odds(0, 3, 1), 1);
        due("23 not now", x.odds(0, 2, 0), 0);
        due("23 0 is 0 by 1", x.odds(0, 2, 1), 1);
        due("23 one cell", x.odds(1, 2, 0), 3);
        due("23 one cell, below", x.odds(1, 2, 1), 4);
        due("23 two cells", x.odds(1, 1, 0), 1);
        due("23 two cells, below", x.odds(1, 1, 1), 4);
        due("23 behind two: 1", x.odds(2, 1, 0), 9);
        due("23 behind two: 1, below", x.odds(2, 1, 1), 16);
        due("23 behind two: 0", x.odds(2, 0, 0), 3);
        due("23 behind two: 0, below", x.odds(2, 0, 1), 8);
        due("23 behind two: over", x.odds(2, 20, 0), 1);
        due("23 behind two: over, below", x.odds(2, 20, 1), 16);
        due("23 behind two: over the other", x.odds(2, 21, 0), 0);
        // From 3: not yet over behind three minutes are 3 cells in three steps alone.
        due("23 behind three: 0", x.odds(3, 0, 0), 27);
        due("23 behind three: 0, below", x.odds(3, 0, 1), 64);
        due("23 behind three: over", x.odds(3, 20, 0), 37);
        due("23 behind four: over", x.odds(4, 20, 0), 1);
        due("23 behind eight: over", x.odds(8, 20, 0), 1);
        due("23 behind eight: over, below", x.odds(8, 20, 1), 1);
        due("23 above", x.odds(9, 0, 0), -1);
        due("23 below", x.odds(-1, 0, 0), -1);
        due("23 no cell", x.odds(1, 5, 0), -1);
        due("23 no cell below", x.odds(1, -1, 0), -1);
        due("23 19", x.odds(1, 19, 0), -1);
        due("23 22", x.odds(1, 22, 0), -1);
        due("23 what above", x.odds(1, 0, 2), -1);
        due("23 what below", x.odds(1, 0, -1), -1);
        x.breaks(0);
        due("23 nobody breaks", x.odds(2, 1, 0), 1);
        due("23 nobody breaks, for sure", x.odds(2, 1, 1), 1);
        x.breaks(7);
        due("23 seven", x.odds(1, 1, 0), 7);
        due("23 seven, below", x.odds(1, 1, 1), 8);
        due("23 nothing changes", x.rule(1), 3);
        oddsOfEight();
    }

    private static void oddsOfEight() {
        KegBrooks x = of("cells 9;keg 8;side 0 12 steady 1;rest 1;break 7;");
        due("23 eight single steps", x.odds(8, 0, 0), 1);
        due("23 of 8 by the power of 8", x.odds(8, 0, 1), 16777216);
        due("23 all others", x.odds(8, 20, 0), 16777215);
        x.breaks(4);
        // Over, but for eight single steps.
        due("23 half and half: over", x.odds(8, 20, 0), 255);
        due("23 half and half: below", x.odds(8, 20, 1), 256);
        due("23 half and half behind five: 3", x.odds(5, 3, 0), 1);
        due("23 behind five: 1", x.odds(5, 1, 0), 5);
        due("23 behind five: 1, below", x.odds(5, 1, 1), 16);
        x.breaks(1);
        due("23 one of eight", x.odds(1, 6, 0), 1);
        due("23 one of eight, below", x.odds(1, 6, 1), 8);
        KegBrooks w = of("cells 9;keg 7;side 1 12 steady 1;rest 1;break 1;");
        due("23 over behind nine", w.odds(1, 21, 0), 1);
        due("23 over behind nine, below", w.odds(1, 21, 1), 8);
        due("24 over behind nine", w.mean(1, 0), 73);
        KegBrooks v = of("cells 9;keg 0;slope 0 0;slope 1 0;side 1 12 late 1;rest 4;break 4;");
        // By two cells it is beyond the slopes, by one they take it back.
        due("23 half of it comes back", v.odds(3, 20, 0), 1);
        due("23 half of it comes back, below", v.odds(3, 20, 1), 2);
        due("23 half of it stays", v.odds(3, 2, 1), 2);
        KegBrooks y = of("cells 3;keg 2;side 1 5 all 0;break 3;");
        due("23 over 1", y.odds(1, 21, 0), 1);
        due("23 over 1 stays", y.odds(8, 21, 0), 1);
        y.put(1);
        due("23 over 1 by breaks", y.odds(1, 21, 0), 3);
        due("23 else the last one", y.odds(1, 2, 0), 5);
        due("23 of 8", y.odds(1, 2, 1), 8);
        y.put(2);
        y.go(0, 5, false);
        due("23 it is over", y.odds(3, 21, 0), 1);
        due("23 in no cell then", y.odds(3, 2, 0), 0);
    }

    private static void mean() {
        KegBrooks x = of("cells 5;keg 3;side 0 12 steady 1;rest 1;break 2;");
        due("24 now", x.mean(0, 0), 4);
        due("24 now, below", x.mean(0, 1), 1);
        due("24 one", x.mean(1, 0), 11);
        due("24 one, below", x.mean(1, 1), 4);
        // 9/16 of 2, 6/16 of 1, 1/16 of 0.
        due("24 two", x.mean(2, 0), 3);
        due("24 two, below", x.mean(2, 1), 2);
        due("24 eight: over is 0", x.mean(8, 0), 0);
        due("24 eight: 0 by 1", x.mean(8, 1), 1);
        due("24 above", x.mean(9, 0), -1);
        due("24 below", x.mean(-1, 0), -1);
        due("24 what above", x.mean(0, 2), -1);
        due("24 what below", x.mean(0, -1), -1);
        KegBrooks y = of("cells 3;keg 1;side 1 5 all 0;break 3;");
        // 5/8 of 3, 3/8 of 4.
        due("24 over 1", y.mean(1, 0), 27);
        due("24 over 1, below", y.mean(1, 1), 8);
        y.put(2);
        due("24 over 1 for sure", y.mean(5, 0), 4);
        due("24 over 1 for sure, below", y.mean(5, 1), 1);
    }

    private static void reply() {
        KegBrooks x = of("cells 5;side 0 5 all 0;side 1 4 steady 2;hedge 1 1;hedge 2 2;rest 1;");
        // Two push back, one more is the hedge, and it takes one above both.
        due("25 keg of 0", x.reply(0, 1, 0), 1);
        due("25 men of 0", x.reply(0, 1, 10), 4);
        due("25 k no less than n", x.reply(0, 1, 11), -1);
        // All five of side 0 come: four are as many as the hedge then leaves to be stopped.
        due("25 keg of 1", x.reply(1, 1, 0), 2);
        due("25 men of 1: fewest that keep it", x.reply(1, 1, 10), 4);
        due("25 what 1", x.reply(0, 1, 1), -1);
        due("25 what 9", x.reply(0, 1, 9), -1);
        due("25 what below", x.reply(0, 1, -1), -1);
        due("25 n above", x.reply(0, 5, 0), -1);
        due("25 n below", x.reply(0, 0, 0), -1);
        due("25 k of four", x.reply(0, 4, 14), -1);
        due("25 no side", x.reply(2, 1, 0), -1);
        due("25 no side below", x.reply(-1, 1, 0), -1);
        due("25 nothing changes", x.rule(4), 0);
        x.put(0);
        x.go(5, 0, false);
        due("25 it is over", x.reply(0, 1, 0), -2);
        due("25 bad ahead of that", x.reply(0, 5, 0), -1);
        // Behind a break nobody is looked for.
        KegBrooks y = of("cells 9;keg 8;side 0 1 all 0;break 7;");
        due("25 no breaks", y.reply(0, 1, 0), 7);
    }

    private static void replyFirstByNumbers() {
        // One cell takes one man, who rests for 4 minutes: the first by numbers sends him last.
        KegBrooks x = of("cells 9;keg 4;side 0 1 all 0;rest 4;");
        due("25 one push in four", x.reply(0, 4, 0), 3);
        int[] sent = {0, 0, 0, 1};
        for (int k = 0; k < 4; k++) {
            due("25 men in " + k, x.reply(0, 4, 10 + k), sent[k]);
        }
        // Over its own brook in the first minute of all; what comes behind is 0.
        KegBrooks y = of("cells 3;keg 0;side 0 4 all 0;rest 1;");
        due("25 over", y.reply(0, 3, 0), 20);
        due("25 nobody first", y.reply(0, 3, 10), 0);
        due("25 nobody then", y.reply(0, 3, 11), 0);
        due("25 one at last", y.reply(0, 3, 12), 1);
        // Slopes towards the brook of side 1 take it away, but for all who come at once.
        KegBrooks z = of("cells 3;keg 0;slope 0 6;slope 1 6;slope 2 6;side 0 4 all 0;rest 4;");
        due("25 at once", z.reply(0, 2, 0), 20);
        due("25 four at once", z.reply(0, 2, 10), 4);
        due("25 none behind", z.reply(0, 2, 11), 0);
        // Side 0 has nobody left in the second minute.
        KegBrooks v = of("cells 3;keg 2;side 1 3 all 0;side 0 2 late 3;rest 4;");
        due("25 waits for the others' rest", v.reply(1, 2, 0), 21);
        due("25 two stop them", v.reply(1, 2, 10), 2);
        due("25 one is enough then", v.reply(1, 2, 11), 1);
        due("25 lost in any case", of("cells 3;keg 0;side 0 5 all 0;side 1 3 all 0;").reply(1, 2, 0), 20);
        due("25 lost in any of nine", of("cells 9;keg 0;side 0 5 all 0;side 1 3 all 0;").reply(1, 4, 0), 20);
        due("25 lost behind nine", of("cells 9;keg 8;side 1 5 all 0;side 0 3 all 0;").reply(0, 4, 0), 21);
        due("25 all are 0 then", of("cells 3;keg 0;side 0 5 all 0;side 1 3 all 0;").reply(1, 2, 10), 0);
    }

    private static void hold() {
        KegBrooks x = of("cells 5;side 0 12 all 0;side 1 5 steady 3;rest 1;");
        // Side 1 sends 3, then 2, 3, 2: side 0 has enough by 3 in the first, 9 fresh ones stay.
        due("26 three keep it", x.hold(0, 2, 1), 3);
        due("26 one cell more is lost", x.hold(0, 3, 1), 0);
        due("26 side 1 against all", x.hold(1, 2, 1), -4);
        due("26 side 1, one cell less", x.hold(1, 1, 1), 0);
        due("26 the last cell", x.hold(0, 4, 2), 0);
        due("26 the last cell, in three", x.hold(0, 4, 3), 2);
        due("26 twenty", x.hold(0, 2, 20), 3);
        due("26 n above", x.hold(0, 2, 21), -1);
        due("26 n below", x.hold(0, 2, 0), -1);
        due("26 no cell", x.hold(0, 5, 1), -1);
        due("26 no cell below", x.hold(0, -1, 1), -1);
        due("26 over is no cell", x.hold(0, 20, 1), -1);
        due("26 no side", x.hold(2, 0, 1), -1);
        due("26 no side below", x.hold(-1, 0, 1), -1);
        due("26 the captain stays", x.side(0, 6), 0);
        due("26 behind each, not now", x.hold(0, 1, 1), 4);
        // Twelve men alone hold against twelve.
        KegBrooks y = of("cells 3;side 0 12 all 0;side 1 12 all 0;");
        due("26 twelve", y.hold(0, 1, 1), 12);
        y.fool(0, 1);
        due("26 by none", y.hold(0, 1, 1), -4);
        // Its own brook is beyond nothing.
        KegBrooks z = of("cells 3;keg 0;side 0 3 all 0;slope 0 0;");
        due("26 over its own brook", z.hold(0, 0, 5), 0);
        z.go(0, 0, false);
        due("26 it is over", z.hold(0, 0, 1), -2);
        due("26 bad ahead of that", z.hold(0, 0, 0), -1);
    }

    private static void table() {
        KegBrooks x = of("cells 9;keg 4;side 0 4 steady 1;side 1 6 steady 2;rest 1;");
        due("27 all, all", x.table(0, 0, 1), 5);
        due("27 all, half", x.table(0, 1, 1), 3);
        due("27 half, all", x.table(1, 0, 1), 5);
        due("27 steady, steady", x.table(2, 2, 1), 5);
        due("27 all, steady", x.table(0, 2, 1), 3);
        due("27 late, follows", x.table(3, 4, 1), 5);
        due("27 follows, follows", x.table(4, 4, 1), 4);
        due("27 now", x.table(0, 0, 0), 4);
        due("27 late in the last cell", x.table(3, 2, 4), 8);
        due("27 late pushes back", x.table(3, 2, 5), 7);
        x.captain(0, 2, 0);
        due("27 over", x.table(2, 2, 5), 21);
        due("27 over stays", x.table(3, 2, 60), 21);
        due("27 n above", x.table(0, 0, 61), -1);
        due("27 n below", x.table(0, 0, -1), -1);
        due("27 a above", x.table(5, 0, 1), -1);
        due("27 a below", x.table(-1, 0, 1), -1);
        due("27 b above", x.table(0, 5, 1), -1);
        due("27 b below", x.table(0, -1, 1), -1);
        due("27 the captains stay", x.side(0, 6) * 10 + x.side(1, 6), 22);
    }

    private static void without() {
        KegBrooks x = of("cells 5;keg 2;side 0 4 steady 2;hedge 0 5;hedge 1 2;hedge 4 9;rest 1;");
        due("28 with it", x.ahead(4), 2);
        due("28 without it", x.without(1, 1), 1);
        due("28 without another", x.without(0, 4), 2);
        due("28 without that of the last", x.without(4, 4), 2);
        due("28 the next one stops it", x.without(1, 60), 1);
        due("28 now", x.without(1, 0), 2);
        x.captain(0, 2, 1);
        due("28 one is enough", x.without(1, 1), 1);
        due("28 n above", x.without(1, 61), -1);
        due("28 n below", x.without(1, -1), -1);
        due("28 no cell", x.without(5, 1), -1);
        due("28 no cell below", x.without(-1, 1), -1);
        due("28 it stays", x.cell(1, 2), 2);
        x.hedge(1, 0);
        x.put(0);
        x.go(2, 0, false);
        due("28 it is over", x.without(0, 3), 20);
    }

    private static void tell() {
        KegBrooks x = new KegBrooks();
        due("29 one", x.tell(0, 0), 1);
        due("29 two", x.tell(12, 4), 2);
        due("29 over", x.tell(5, 20), 3);
        due("29 over behind", x.tell(5, 21), 4);
        due("29 n above", x.tell(13, 0), -1);
        due("29 n below", x.tell(-1, 0), -1);
        due("29 no cell", x.tell(0, 5), -1);
        due("29 no cell below", x.tell(0, -1), -1);
        due("29 19", x.tell(0, 19), -1);
        due("29 22", x.tell(0, 22), -1);
        due("29 refused ones do not count", x.count(0), 4);
        x.tell(0, 0);
        x.tell(0, 0);
        x.tell(0, 0);
        due("29 eight", x.tell(0, 0), 8);
        due("29 full", x.tell(0, 0), -3);
        due("29 bad ahead of full", x.tell(13, 0), -1);
        due("29 eight still", x.count(0), 8);
        // What is told is no image.
        x.forget(2);
        x.keep(0);
        x.forget(1);
        x.back(0);
        due("29 stays by back()", x.count(0), 1);
    }

    private static void forget() {
        KegBrooks x = new KegBrooks();
        due("30 nothing", x.forget(0), 0);
        due("30 above nothing", x.forget(1), -1);
        x.tell(0, 2);
        x.tell(0, 3);
        x.tell(0, 4);
        due("30 above", x.forget(4), -1);
        due("30 below", x.forget(-1), -1);
        due("30 all", x.forget(3), 3);
        due("30 the first alone", x.forget(1), 3);
        due("30 how many", x.count(0), 1);
        due("30 which", x.where(), 4);
        due("30 none", x.forget(0), 1);
        due("30 no more", x.count(0), 0);
    }

    private static void lies() {
        KegBrooks x = of("cells 9;keg 8;side 0 12 steady 1;rest 1;break 7;");
        due("31 nothing told", x.lies(), 0);
        x.tell(0, 8);
        x.tell(1, 8);
        x.tell(2, 6);
        x.tell(12, 20);
        x.tell(9, 21);
        x.tell(8, 0);
        x.tell(8, 1);
        x.tell(0, 7);
        due("31 bits", x.lies(), 2 + 16 + 64 + 128);
        x.go(1, 0, false);
        // From how it stands now: the keg is in 7.
        due("31 asked of now", x.lies(), 1 + 2 + 4 + 16 + 32 + 64);
        x.put(0);
        x.go(1, 0, false);
        due("31 it is over", x.lies(), 255 - 8);
        KegBrooks y = of("cells 3;");
        y.tell(12, 1);
        y.tell(12, 2);
        due("31 behind twelve", y.lies(), 2);
        due("32 behind twelve", y.where(), 0);
    }

    private static void where() {
        KegBrooks x = of("cells 9;keg 8;side 0 12 steady 1;rest 1;");
        due("32 nothing told", x.where(), 511);
        x.tell(3, 20);
        due("32 the first three", x.where(), 7);
        x.tell(2, 0);
        due("32 the third", x.where(), 4);
        x.tell(0, 3);
        due("32 none", x.where(), 0);
        due("32 the keg stays", x.rule(1), 8);
        x.forget(1);
        x.put(0);
        x.go(1, 0, false);
        due("32 may be, were it not over", x.where(), 7);
        due("32 the cells that there are", of("cells 3;").where(), 7);
        due("32 without breaks", toldOfBreaks().where(), 2);
    }

    private static KegBrooks toldOfBreaks() {
        KegBrooks x = of("cells 3;side 0 1 all 0;break 7;");
        x.tell(1, 0);
        return x;
    }

    private static void play() {
        // Seed 1: 1103527590 (bits 16838, 6 of 8), then 2524885223 (5758, 6 of 8), 662824084 (10113, 1 of 8).
        KegBrooks x = of("cells 9;keg 8;side 0 12 steady 1;rest 1;break 6;");
        due("33 6 is not less than 6", x.play(1, 1, 0), 7);
        due("33 nor the second", x.play(1, 2, 0), 6);
        due("33 the third breaks", x.play(1, 3, 0), 4);
        due("33 minutes", x.play(1, 3, 1), 3);
        x.breaks(7);
        due("33 6 is less than 7", x.play(1, 1, 0), 6);
        due("33 two", x.play(1, 2, 0), 4);
        due("33 five at the most", x.play(1, 60, 0), 20);
        x.breaks(0);
        due("33 nobody", x.play(1, 8, 0), 0);
        due("33 nine minutes", x.play(1, 60, 1), 9);
        due("33 over", x.play(1, 60, 0), 20);
        due("33 seed MIN", x.play(MIN, 1, 0), 7);
        // Seed 0: 0, 4, 4, 5; seed -3: 5, 4, 2, 1; seed MAX: 1, 1, 6, 6.
        x.breaks(1);
        due("33 seed 0 by 1", x.play(0, 1, 0), 6);
        due("33 seed 0 by 1, four", x.play(0, 4, 0), 3);
        due("33 seed MAX by 1", x.play(MAX, 2, 0), 6);
        x.breaks(5);
        due("33 seed -3 by 5", x.play(-3, 1, 0), 7);
        due("33 seed -3 by 5, four", x.play(-3, 4, 0), 1);
        x.breaks(4);
        due("33 seed MAX by 4", x.play(MAX, 4, 0), 2);
        due("33 seed MIN by 4", x.play(MIN, 4, 0), 3);
        due("33 n above", x.play(1, 61, 0), -1);
        due("33 n below", x.play(1, 0, 0), -1);
        due("33 what above", x.play(1, 1, 2), -1);
        due("33 what below", x.play(1, 1, -1), -1);
        due("33 nothing changes", x.rule(1), 8);
        due("33 nor the minute", x.rule(4), 0);
        x.put(0);
        x.go(1, 0, false);
        due("33 it is over", x.play(1, 5, 0), 20);
        due("33 none went", x.play(1, 5, 1), 0);
    }

    private static void keepAndBack() {
        KegBrooks x = of("cells 4;room 1 2;slope 1 4;hedge 1 1;keg 1;side 0 6 late 2;side 1 7 half 3;fools 1 2;rest 3;break 4;");
        due("35 none", x.back(0), -2);
        due("35 none at 1", x.back(1), -2);
        x.go(2, 0, false);
        due("34 first", x.keep(1), 0);
        due("34 again", x.keep(1), 1);
        due("34 the other", x.keep(0), 0);
        due("34 above", x.keep(2), -1);
        due("34 below", x.keep(-1), -1);
        due("34 MAX", x.keep(MAX), -1);
        due("34 32 is not 0", x.keep(32), -1);
        due("35 above", x.back(2), -1);
        due("35 below", x.back(-1), -1);
        due("34 images", x.count(1), 2);
        x.room(1, 9);
        x.slope(1, 0);
        x.hedge(1, 9);
        x.put(3);
        x.men(0, 1);
        x.captain(0, 0, 0);
        x.captain(1, 4, 9);
        x.fool(1, 5);
        x.rest(1);
        x.breaks(0);
        x.go(1, 7, false);
        x.keep(0);
        due("35 the minute", x.back(1), 1);
        long[] now = {x.rule(0), x.rule(1), x.rule(2), x.rule(3), x.rule(4), x.cell(1, 0), x.cell(1, 1), x.cell(1, 2),
            x.side(0, 0), x.side(0, 3), x.side(0, 6), x.side(0, 7), x.side(1, 0), x.side(1, 5), x.side(1, 6), x.side(1, 7)};
        long[] was = {4, 0, 3, 4, 1, 2, 4, 1, 4, 2, 3, 2, 7, 2, 1, 3};
        for (int k = 0; k < was.length; k++) {
            due("35 as it was " + k, now[k], was[k]);
        }
        due("35 the other image", x.back(0), 2);
        due("35 its room", x.cell(1, 0), 9);
        due("35 its number", x.side(1, 7), 9);
        x.room(1, 5);
        due("35 once more", x.back(0), 2);
        due("35 the image stays as it was", x.cell(1, 0), 9);
    }

    private static void sheet() {
        KegBrooks x = new KegBrooks();
        due("36 nothing", x.count(3), -4);
        due("36 of no cells", x.sheet(0, 0, 0), 1);
        due("36 has 0", x.count(3), 0);
        due("36 forty", x.sheet(0, 2, 40), 1);
        due("36 has 40", x.count(3), 40);
        due("36 above", x.sheet(0, 0, 41), -1);
        due("36 size", x.sheet(0, 0, -1), -14);
        due("36 size MIN", x.sheet(0, 0, MIN), -14);
        due("36 MAX", x.sheet(0, 0, MAX), -1);
        due("36 lane above", x.sheet(0, 3, 1), -1);
        due("36 lane below", x.sheet(0, -1, 1), -1);
        due("36 no sheet", x.sheet(4, 0, 1), -1);
        due("36 no sheet below", x.sheet(-1, 0, 1), -1);
        due("36 bad ahead of size", x.sheet(4, 0, -1), -1);
        due("36 lane bad ahead of size", x.sheet(0, 3, -1), -1);
        due("36 has 40 still", x.count(3), 40);
        due("36 of its lane still", x.read(0, 2, 0, 1), 1);
        x.men(0, 5);
        x.lay(0, 0, 5);
        due("36 anew", x.sheet(0, 2, 2), 1);
        due("36 cells are 0", x.read(0, 2, 0, 1), 1);
        due("36 nobody was sent", x.side(0, 0), 5);
        due("36 the last sheet", x.sheet(3, 1, 7), 1);
        due("36 is another one", x.count(3), 2);
    }

    private static void lay() {
        KegBrooks x = new KegBrooks();
        due("37 nothing", x.lay(2, 0, 1), -11);
        due("37 nothing, any cell", x.lay(2, -5, 1), -11);
        due("37 no sheet", x.lay(4, 0, 1), -1);
        due("37 no sheet below", x.lay(-1, 0, 1), -1);
        x.sheet(2, 0, 4);
        due("37 first", x.lay(2, 0, 1), 1);
        due("37 last", x.lay(2, 3, 1), 1);
        due("37 index", x.lay(2, 4, 1), -12);
        due("37 index below", x.lay(2, -1, 1), -12);
        due("37 MIN", x.lay(2, MIN, 1), -12);
        due("37 MAX", x.lay(2, MAX, 1), -12);
        x.sheet(2, 0, 0);
        due("37 of no cells", x.lay(2, 0, 1), -12);
        lowestBits(0, 256);
        lowestBits(1, 65536);
        KegBrooks y = new KegBrooks();
        y.sheet(0, 2, 2);
        y.men(0, 3);
        y.lay(0, 0, 65536 + 3);
        due("37 an int has all its bits", y.read(0, 2, 0, 1), -20);
        y.lay(0, 0, 3);
        due("37 an int", y.read(0, 2, 0, 1), 1);
    }

    private static void lowestBits(int lane, int above) {
        KegBrooks x = new KegBrooks();
        x.sheet(0, lane, 2);
        x.men(0, 3);
        x.rest(1);
        x.lay(0, 0, above + 3);
        due("37 lowest bits of lane " + lane, x.read(0, lane, 0, 1), 1);
        due("37 three were sent", x.side(0, 1), 3);
        x.read(0, lane, 0, 0);
        x.go(0, 0, false);
        x.lay(0, 0, above / 2 + 1);
        due("37 with a sign " + lane, x.read(0, lane, 0, 1), -20);
        x.lay(0, 0, -above + 2);
        due("37 below " + lane, x.read(0, lane, 0, 1), 1);
        due("37 two were sent", x.side(0, 1), 2);
    }

    private static void read() {
        KegBrooks x = of("cells 9;keg 4;side 0 6 all 0;side 1 6 all 0;rest 4;");
        x.sheet(0, 1, 9);
        int[] cells = {0, 1, 0, 2, 1, 0, 2, 2, 1};
        for (int i = 0; i < cells.length; i++) {
            x.lay(0, i, cells[i]);
        }
        x.keep(0);
        due("38 none", x.read(0, 1, 0, 0), 0);
        due("38 nothing went", x.rule(4), 0);
        due("38 all", x.read(0, 1, 0, 4), 4);
        due("38 keg", x.rule(1), 5);
        due("38 minute", x.rule(4), 4);
        due("38 fresh 0", x.side(0, 0), 3);
        due("38 fresh 1", x.side(1, 0), 1);
        x.back(0);
        due("38 from the second cell on", x.read(0, 1, 1, 4), 4);
        due("38 x and y", x.side(0, 0) * 10 + x.side(1, 0), 12);
        x.back(0);
        due("38 those that were whole", x.read(0, 1, 0, 20), 4);
        due("38 index", x.torn(), 2);
        due("38 they went", x.rule(4), 4);
        x.back(0);
        due("38 half a minute", x.read(0, 1, 8, 1), 0);
        due("38 index then", x.torn(), 2);
        due("38 behind", x.read(0, 1, 9, 1), 0);
        due("38 MAX", x.read(0, 1, MAX, 1), 0);
        due("38 MAX less 1", x.read(0, 1, MAX - 1, 1), 0);
        due("38 MIN", x.read(0, 1, MIN, 1), 0);
        due("38 below", x.read(0, 1, -2, 20), 0);
        due("38 index again", x.torn(), 2);
        due("38 the last pair", x.read(0, 1, 7, 1), 1);
        due("38 none torn", x.torn(), 0);
        due("38 lane above", x.read(0, 3, 0, 1), -1);
        due("38 lane below", x.read(0, -1, 0, 1), -1);
        due("38 n above", x.read(0, 1, 0, 21), -1);
        due("38 n below", x.read(0, 1, 0, -1), -1);
        due("38 no sheet", x.read(4, 1, 0, 1), -1);
        due("38 no sheet below", x.read(-1, 1, 0, 1), -1);
        due("38 bad, of nothing", x.read(3, 1, 0, 21), -1);
        readNobodyBreaks();
    }

    private static void readNobodyBreaks() {
        KegBrooks x = of("cells 9;keg 4;side 1 6 all 0;break 7;");
        x.sheet(1, 0, 2);
        x.lay(1, 1, 6);
        due("38 one minute", x.read(1, 0, 0, 1), 1);
        due("38 nobody breaks out", x.rule(1), 5);
    }

    private static void readRefused() {
        KegBrooks x = of("cells 3;keg 1;side 0 6 all 0;rest 4;");
        x.sheet(0, 2, 8);
        int[] cells = {1, 0, 1, 0, 1, 0, -1, 0};
        for (int i = 0; i < cells.length; i++) {
            x.lay(0, i, cells[i]);
        }
        x.read(1, 0, 0, 1);
        due("38 null", x.torn(), 1);
        due("38 the third is over", x.read(0, 2, 0, 3), -22);
        due("38 none went", x.rule(4), 0);
        due("38 the keg stays", x.rule(1), 1);
        due("38 the men stay", x.side(0, 0), 6);
        due("38 torn stays", x.torn(), 1);
        due("38 too few", x.read(0, 2, 6, 1), -20);
        due("38 the first met", x.read(0, 2, 4, 20), -21);
        due("38 bad leaves torn", x.read(0, 2, 0, 21), -1);
        due("38 torn stays still", x.torn(), 1);
        due("38 two go", x.read(0, 2, 0, 2), 2);
        due("38 it is over", x.rule(1), 20);
        due("38 over at once", x.read(0, 2, 0, 1), -20);
        due("38 null ahead of over", x.read(1, 2, 0, 1), 0);
        x.lay(0, 0, 7);
        x.put(2);
        due("38 more than fresh", x.read(0, 2, 0, 1), -20);
    }

    private static void torn() {
        KegBrooks x = new KegBrooks();
        x.sheet(1, 1, 1);
        x.read(0, 0, 0, 1);
        due("39 null", x.torn(), 1);
        x.read(1, 1, 0, 1);
        due("39 index", x.torn(), 2);
        x.read(1, 2, 0, 1);
        due("39 cast", x.torn(), 3);
        x.read(1, 0, 9, 1);
        due("39 cast ahead of index", x.torn(), 3);
        x.read(0, 0, -1, 1);
        due("39 null ahead of index", x.torn(), 1);
        x.read(1, 2, 9, 0);
        due("39 none of no minutes", x.torn(), 0);
        x.read(0, 0, 0, 1);
        x.text();
        due("39 a text leaves it", x.torn(), 1);
        x.read(0, 0, 0, 0);
        due("39 none of nothing", x.torn(), 0);
    }

    private static void count() {
        KegBrooks x = of("side 0 6 all 0;side 1 9 all 0;rest 3;");
        x.put(2);
        x.tell(0, 0);
        x.tell(0, 0);
        x.keep(1);
        x.feed(0);
        x.go(4, 5, false);
        due("40 told", x.count(0), 2);
        due("40 images", x.count(1), 1);
        due("40 tape", x.count(2), 8);
        due("40 sheet 0", x.count(3), -4);
        x.sheet(0, 0, 3);
        due("40 sheet 0 of 3", x.count(3), 3);
        due("40 men of 0", x.count(4), 6);
        due("40 men of 1", x.count(5), 9);
        due("40 above", x.count(6), -1);
        due("40 below", x.count(-1), -1);
        due("40 MIN", x.count(MIN), -1);
        due("40 MAX", x.count(MAX), -1);
    }

    private static void refusedChangesNothing() {
        KegBrooks x = of("cells 4;room 1 2;hedge 1 1;side 0 6 late 2;side 1 7 half 3;fools 1 2;rest 3;break 4;");
        long before = allOf(x);
        int[] wrong = {-1, 22, 41, MIN, MAX};
        for (int v : wrong) {
            x.room(1, v);
            x.slope(1, v);
            x.hedge(1, v);
            x.fool(1, v);
            x.men(1, v);
            x.captain(1, v, 3);
            x.captain(1, 3, v);
            x.rest(v);
            x.breaks(v);
            x.put(v);
            x.go(v, 0, true);
            x.go(0, v, true);
            x.tell(v, 0);
            x.tell(0, v);
            x.forget(v);
            x.keep(v);
            x.back(v);
            x.sheet(0, v, 3);
            x.sheet(v, 0, 3);
            x.end(v);
            due("refused by " + v, allOf(x), before);
        }
    }

    private static long allOf(KegBrooks x) {
        long all = 0;
        for (int what = 0; what < 5; what++) {
            all = all * 31 + x.rule(what);
        }
        for (int i = 0; i < 4; i++) {
            all = all * 31 + x.cell(i, 0) * 100 + x.cell(i, 1) * 10 + x.cell(i, 2);
        }
        for (int what = 0; what < 8; what++) {
            all = all * 31 + x.side(0, what) * 20 + x.side(1, what);
        }
        for (int what = 0; what < 6; what++) {
            all = all * 31 + x.count(what);
        }
        return all;
    }
}

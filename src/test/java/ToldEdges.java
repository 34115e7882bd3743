/** Edges of promises 29 (tell) to 33 (play), and of what the terms tell of what is told. */
final class ToldEdges extends Dues {
    private ToldEdges() {
    }

    static void all() {
        told();
        tell();
        forget();
        lies();
        where();
        play();
        playBreaks();
    }

    private static KegBrooks eightTold() {
        KegBrooks x = Edges.busy();
        while (x.count(0) < 8) {
            x.tell(0, x.count(0) - 3);
        }
        return x;
    }

    private static void told() {
        Edges.terms("TOLD (8): behind n MINUTES (0 to 12) from how it stands when that is asked of (not from tell() on) BY "
            + "CAPTAINS THE KEG is in a CELL (or 20, 21).", () -> {
            KegBrooks x = MinuteEdges.swinging();
            for (int k = 1; k <= 8; k++) {
                due("telling " + k, x.tell(5 + (k - 1) % 8, 1), k);
            }
            due("a ninth", x.tell(0, 1), -3);
            // Told of 5 to 12: those of odd minutes lie.
            due("now", x.lies(), 0x55);
            x.go(0, 0, false);
            due("a minute later it is the others", x.lies(), 0xAA);
            x.breaks(7);
            due("without breaks", x.lies(), 0xAA);
            x.hedge(1, 9);
            due("as the field is then", x.lies(), 0xFF);
            x.put(1);
            due("as the keg is then", x.lies(), 0x00);
            KegBrooks y = MinuteEdges.sliding(0);
            y.tell(12, 21);
            y.tell(9, 21);
            y.tell(8, 21);
            y.tell(0, 0);
            due("over behind", y.lies(), 4);
            y.put(1);
            due("from how it stands", y.lies(), 8);
        });
    }

    private static void tell() {
        Edges.promise(29, "TOLD: that behind n MINUTES THE KEG is in a CELL (or 20, 21): how many are.", () -> {
            KegBrooks x = new KegBrooks();
            int[] minutes = {0, 12, 0, 12, 0, 12, 5, 5};
            int[] places = {0, 0, 4, 4, 20, 21, 20, 21};
            for (int k = 0; k < 8; k++) {
                due("telling " + (k + 1), x.tell(minutes[k], places[k]), k + 1);
                due("how many", x.count(0), k + 1);
            }
            due("it is said when it is over, too", Edges.overAhead().tell(0, 20), 4);
            for (int cells = 3; cells <= 9; cells++) {
                KegBrooks y = Edges.cells(cells);
                due("the last of " + cells, y.tell(0, cells - 1), 1);
                due("one behind it", y.tell(0, cells), -1);
            }
        });
        Edges.promise(29, "BAD; FULL.", () -> {
            Edges.bounds("n", Edges::busy, 0, 12, (x, v) -> x.tell(v, 3));
            Edges.places("tell", Edges::busy, 6, (x, v) -> x.tell(3, v));
            for (int cells = 3; cells <= 9; cells++) {
                int n = cells;
                Edges.places("tell of " + n, () -> Edges.cells(n), n, (x, v) -> x.tell(12, v));
            }
            due("eight", eightTold().count(0), 8);
            Edges.refused("the ninth", ToldEdges::eightTold, x -> x.tell(1, 1), -3);
            Edges.refused("the ninth, over", ToldEdges::eightTold, x -> x.tell(12, 21), -3);
            // What is BAD is so ahead of FULL, too.
            Edges.bounds("n of a ninth", ToldEdges::eightTold, 0, 12, (x, v) -> x.tell(v, 1));
            Edges.places("a ninth", ToldEdges::eightTold, 6, (x, v) -> x.tell(1, v));
            KegBrooks x = eightTold();
            x.forget(7);
            due("the eighth anew", x.tell(0, 0), 8);
            due("full again", x.tell(0, 0), -3);
        });
    }

    private static void forget() {
        Edges.promise(30, "TOLD are the first n alone: how many there were.", () -> {
            // In which cell it is now is told of each of eight: one is so.
            for (int n = 0; n <= 8; n++) {
                KegBrooks x = of("cells 9;");
                for (int k = 0; k < 8; k++) {
                    x.tell(0, k);
                }
                due("of eight", x.forget(n), 8);
                due("there are", x.count(0), n);
                for (int i = 0; i < 8; i++) {
                    x.put(i);
                    due("the first " + n + ", in " + i, x.lies(), (1 << n) - 1 & ~(1 << i));
                }
                due("once more", x.forget(n), n);
                if (n < 8) {
                    due("told anew", x.tell(0, 8), n + 1);
                    due("behind those", x.lies(), (1 << n + 1) - 1);
                }
            }
            due("none of none", new KegBrooks().forget(0), 0);
        });
        Edges.promise(30, "BAD (n above that, too).", () -> {
            Edges.bounds("nothing told", KegBrooks::new, 0, 0, KegBrooks::forget);
            Edges.bounds("three told", Edges::busy, 0, 3, KegBrooks::forget);
            Edges.bounds("eight told", ToldEdges::eightTold, 0, 8, KegBrooks::forget);
        });
    }

    private static void lies() {
        Edges.promise(31, "Which that are TOLD are not so (bits).", () -> {
            due("nothing is told", new KegBrooks().lies(), 0);
            for (int so = 0; so < 256; so += 5) {
                KegBrooks x = MinuteEdges.swinging();
                for (int k = 0; k < 8; k++) {
                    // Behind an even number of minutes it is in cell 1.
                    x.tell(2 * (k % 6 + 1), (so >> k & 1) == 1 ? 1 : 2);
                }
                due("all but " + so, x.lies(), 255 - so);
            }
            KegBrooks x = MinuteEdges.sliding(0);
            for (int n = 5; n <= 12; n++) {
                x.tell(n, n < 9 ? n : 21);
            }
            due("all are so", x.lies(), 0);
            x.put(1);
            due("none is, but those of over", x.lies(), 0x0F);
            KegBrooks over = Edges.overAhead();
            over.forget(0);
            over.tell(0, 20);
            over.tell(12, 20);
            over.tell(0, 21);
            over.tell(12, 0);
            due("it is over", over.lies(), 12);
            KegBrooks y = MinuteEdges.swinging();
            y.tell(11, 1);
            y.tell(12, 1);
            y.tell(0, 1);
            y.tell(1, 1);
            due("the 11th, the 1st", y.lies(), 9);
            Edges.changesNothing("lies", Edges::busy, KegBrooks::lies);
        });
    }

    private static void where() {
        Edges.promise(32, "CELLS in which THE KEG may be now, all else as it is, so that all that is TOLD is so (bits).", () -> {
            for (int cells = 3; cells <= 9; cells++) {
                KegBrooks x = Edges.cells(cells);
                due("nothing is told, of " + cells, x.where(), (1 << cells) - 1);
                for (int i = 0; i < cells; i++) {
                    x.tell(0, i);
                    due("told of " + i, x.where(), 1 << i);
                    x.forget(0);
                }
                x.tell(0, 20);
                due("it is not over", x.where(), 0);
                x.forget(0);
                x.tell(0, 0);
                x.tell(0, 1);
                due("in none", x.where(), 0);
            }
            KegBrooks x = MinuteEdges.sliding(7);
            x.tell(12, 21);
            due("from each one behind 12", x.where(), 511);
            x.tell(3, 21);
            due("over behind 3", x.where(), 64 + 128 + 256);
            x.tell(2, 8);
            due("not yet behind 2", x.where(), 64);
            due("the keg stays", x.rule(1), 0);
            // All else as it is: who rests does so.
            KegBrooks y = of("cells 9;keg 8;side 0 1 all 0;rest 2;");
            y.tell(1, 4);
            due("a man is fresh", y.where(), 32);
            y.go(1, 0, false);
            due("he rests", y.where(), 16);
            KegBrooks over = Edges.overBehind();
            over.forget(0);
            due("when it is over, too", over.where(), 63);
            over.tell(0, 2);
            due("were it not", over.where(), 4);
            due("it is over still", over.rule(1), 21);
            Edges.changesNothing("where", Edges::busy, KegBrooks::where);
            Edges.changesNothing("where", Edges::overAhead, KegBrooks::where);
        });
    }

    // ---- by a seed

    /** It never comes to a brook: from cells 3, 4 one behind, from 5, 6 one ahead; two by breaks. */
    private static KegBrooks endless(int breaks) {
        return of("cells 9;keg 4;slope 3 4;slope 4 4;slope 5 2;slope 6 2;break " + breaks + ";");
    }

    /** Bits 16 to 30 of the seed, modulo 8, as the document tells it. */
    private static int chance(long seed) {
        return (int) ((seed & 0x7FFFFFFFL) >> 16) % 8;
    }

    private static final int[] SEEDS = {0, 1, -1, 2, 12345, -12345, 1103515245, 65535, 65536, -65536, 1 << 30, MIN, MIN + 1,
        MAX, MAX - 1, 0x5A5A5A5A, 987654321};

    private static void play() {
        Edges.promise(33, "By itself (as it would be; nothing is changed), BY CAPTAINS and a seed, n MINUTES (1 to 60), till "
            + "it is OVER", () -> {
            KegBrooks x = MinuteEdges.swinging();
            for (int n = 1; n <= 60; n++) {
                due("keg behind " + n, x.play(n, n, 0), 1 + n % 2);
                due("minutes of " + n, x.play(n, n, 1), n);
            }
            for (int keg = 0; keg < 9; keg++) {
                KegBrooks y = MinuteEdges.sliding(0);
                y.put(keg);
                due("till it is over, from " + keg, y.play(1, 60, 1), 9 - keg);
                due("the last minute, from " + keg, y.play(1, 9 - keg, 1), 9 - keg);
                due("over", y.play(1, 9 - keg, 0), 21);
                if (keg < 8) {
                    due("not yet", y.play(1, 8 - keg, 0), 8);
                }
            }
            due("over ahead", Edges.overAhead().play(1, 60, 0), 20);
            due("no minute", Edges.overAhead().play(1, 60, 1), 0);
            due("over behind", Edges.overBehind().play(1, 1, 0), 21);
            due("no minute then", Edges.overBehind().play(1, 1, 1), 0);
            due("beyond the 999th", Edges.behind(999).play(1, 60, 1), 60);
            Edges.changesNothing("play", Edges::busy, y -> y.play(5, 60, 0));
            // By captains: as ahead(), if nobody breaks out.
            KegBrooks z = Edges.busy();
            z.breaks(0);
            for (int n = 1; n <= 60; n++) {
                due("by captains " + n, z.play(n, n, 0), z.ahead(n));
            }
        });
        Edges.promise(33, "where THE KEG is then (what 0), MINUTES that went (1). BAD.", () -> {
            Edges.bounds("n", Edges::busy, 1, 60, (x, v) -> x.play(1, v, 0));
            Edges.bounds("n, minutes", Edges::busy, 1, 60, (x, v) -> x.play(1, v, 1));
            Edges.bounds("what", Edges::busy, 0, 1, (x, v) -> x.play(1, 1, v));
            Edges.bounds("n when it is over", Edges::overAhead, 1, 60, (x, v) -> x.play(1, v, 0));
            KegBrooks x = MinuteEdges.swinging();
            for (int seed : Edges.numbers()) {
                if (seed % 3 == 0) {
                    due("any seed", x.play(seed, 1, 0), 2);
                }
            }
        });
    }

    private static void playBreaks() {
        Edges.promise(33, "in each the seed becomes seed times 1103515245 and 12345; are bits 16 to 30 of it modulo 8 less "
            + "than BREAK, somebody BREAKS out", () -> {
            for (int breaks = 0; breaks <= 7; breaks++) {
                for (int first : SEEDS) {
                    KegBrooks x = endless(breaks);
                    long seed = first;
                    int keg = 4;
                    for (int n = 1; n <= 60; n++) {
                        // Wraps around at 32 bits.
                        seed = seed * 1103515245L + 12345L & 0xFFFFFFFFL;
                        int step = chance(seed) < breaks ? 2 : 1;
                        keg += keg <= 4 ? step : -step;
                        if (n < 4 || n > 57) {
                            due("seed " + first + ", BREAK " + breaks + ", behind " + n, x.play(first, n, 0), keg);
                            due("minutes", x.play(first, n, 1), n);
                        }
                    }
                }
            }
            for (int a = 0; a < 5; a++) {
                for (int b = 0; b < 5; b++) {
                    for (int seed : SEEDS) {
                        playedByGo(a, b, 1 + (a + b) % 7, seed);
                    }
                }
            }
            // Seed 0 becomes 12345: bits 16 to 30 are 0, which is not less than 0.
            due("0 is not less than 0", endless(0).play(0, 1, 0), 5);
            due("0 is less than 1", endless(1).play(0, 1, 0), 6);
            // Seed 1 becomes 1103527590: bits 16 to 30 are 16838, modulo 8: 6.
            due("6 is not less than 6", endless(6).play(1, 1, 0), 5);
            due("6 is less than 7", endless(7).play(1, 1, 0), 6);
        });
    }

    /** What captains and a seed play is what go() does, minute by minute, till it is over. */
    private static void playedByGo(int a, int b, int breaks, int first) {
        KegBrooks x = MinuteEdges.pushed(a, b, breaks);
        KegBrooks y = MinuteEdges.pushed(a, b, breaks);
        long seed = first;
        int went = 0;
        for (int n = 1; n <= 20; n++) {
            if (y.rule(1) < 20) {
                seed = seed * 1103515245L + 12345L & 0xFFFFFFFFL;
                y.go(y.sends(0), y.sends(1), chance(seed) < breaks);
                went = n;
            }
            String what = "captains " + a + ", " + b + ", BREAK " + breaks + ", seed " + first + ", behind " + n;
            due(what, x.play(first, n, 0), y.rule(1));
            due(what + ", minutes", x.play(first, n, 1), went);
        }
    }
}

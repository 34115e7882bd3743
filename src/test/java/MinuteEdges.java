/** Edges of promises 18 (sends) to 24 (mean), and of what the terms tell of odds. */
final class MinuteEdges extends Dues {
    private MinuteEdges() {
    }

    static void all() {
        sends();
        net();
        go();
        goRefused();
        goFull();
        ahead();
        over();
        byOdds();
        odds();
        mean();
    }

    /** Slopes send the keg from cell 1 to cell 2 and back, each minute, without anybody. */
    static KegBrooks swinging() {
        return of("cells 4;keg 1;slope 1 4;slope 2 2;side 0 2 steady 0;side 1 2 late 0;");
    }

    /** Slopes send the keg one cell behind in each minute, by breaks two. */
    static KegBrooks sliding(int breaks) {
        StringBuilder text = new StringBuilder("cells 9;keg 0;break " + breaks + ";");
        for (int i = 0; i < 9; i++) {
            text.append("slope ").append(i).append(" 4;");
        }
        return of(text.toString());
    }

    private static void sends() {
        Edges.promise(18, "What a CAPTAIN would SEND now.", () -> {
            KegBrooks x = of("cells 5;side 0 7 half 0;side 1 5 late 3;");
            due("of side 0", x.sends(0), 3);
            due("of side 1", x.sends(1), 5);
            x.put(3);
            due("now", x.sends(1), 0);
            due("nobody of nobody", new KegBrooks().sends(0), 0);
            Edges.changesNothing("sends", Edges::busy, y -> y.sends(0) + y.sends(1));
        });
        Edges.promise(18, "BAD; STATE: it is OVER.", () -> {
            Edges.bounds("sends", Edges::busy, 0, 1, KegBrooks::sends);
            for (int s = 0; s < 2; s++) {
                int side = s;
                Edges.refused("over ahead", Edges::overAhead, x -> x.sends(side), -2);
                Edges.refused("over behind", Edges::overBehind, x -> x.sends(side), -2);
            }
            // What is BAD is so ahead of STATE, too.
            Edges.bounds("sends when it is over", Edges::overAhead, 0, 1, KegBrooks::sends);
            Edges.bounds("sends when it is over", Edges::overBehind, 0, 1, KegBrooks::sends);
        });
    }

    private static KegBrooks fresh(int ofZero, int ofOne) {
        return of("side 0 " + ofZero + " all 0;side 1 " + ofOne + " all 0;");
    }

    private static void net() {
        Edges.promise(19, "100 and NET, were x of SIDE 0, y of SIDE 1 SENT.", () -> {
            KegBrooks x = fresh(12, 12);
            for (int sent = 0; sent <= 12; sent++) {
                due("x " + sent, x.net(sent, 0), 100 - sent);
                due("y " + sent, x.net(0, sent), 100 + sent);
                due("both " + sent, x.net(sent, 12 - sent), 112 - 2 * sent);
            }
            x.slope(2, 0);
            due("the lowest", x.net(12, 0), 85);
            x.slope(2, 6);
            due("the highest", x.net(0, 12), 115);
            Edges.changesNothing("net", Edges::busy, y -> y.net(1, 1));
        });
        Edges.promise(19, "BAD: also more than FRESH; STATE: it is OVER.", () -> {
            for (int n : new int[] {0, 1, 6, 11, 12}) {
                Edges.bounds("x of " + n, () -> fresh(n, 12), 0, n, (x, v) -> x.net(v, 0));
                Edges.bounds("y of " + n, () -> fresh(12, n), 0, n, (x, v) -> x.net(0, v));
                Edges.bounds("x of " + n + ", y of 12", () -> fresh(n, 12), 0, n, (x, v) -> x.net(v, 12));
            }
            KegBrooks x = fresh(12, 12);
            x.go(5, 7, false);
            x.put(2);
            due("more than fresh, who rests with them", x.net(8, 0), -1);
            due("as many as are fresh", x.net(7, 5), 98);
            due("more than fresh of 1", x.net(0, 6), -1);
            Edges.refused("over ahead", Edges::overAhead, y -> y.net(0, 0), -2);
            Edges.refused("over behind", Edges::overBehind, y -> y.net(0, 0), -2);
            Edges.bounds("x when it is over", MinuteEdges::overOfTwelve, 0, 11, (y, v) -> y.net(v, 0));
            Edges.bounds("y when it is over", MinuteEdges::overOfTwelve, 0, 12, (y, v) -> y.net(0, v));
        });
    }

    private static void go() {
        Edges.promise(20, "A MINUTE, x of SIDE 0, y of SIDE 1 being SENT, whether somebody BREAKS out: where THE KEG is "
            + "then.", () -> {
            KegBrooks x = of("cells 9;keg 4;side 0 12 all 0;side 1 12 all 0;rest 1;");
            due("by x", x.go(12, 0, false), 3);
            due("x rests", x.side(0, 1), 12);
            due("y does not", x.side(1, 1), 0);
            due("by y", x.go(0, 12, false), 4);
            due("y rests", x.side(1, 1), 12);
            due("x is fresh", x.side(0, 0), 12);
            due("nobody", x.go(0, 0, false), 4);
            due("nobody to break out", x.go(0, 0, true), 4);
            due("breaks out behind", x.go(0, 1, true), 6);
            due("breaks out ahead", x.go(1, 0, true), 4);
            due("as many of both", x.go(11, 11, true), 4);
            due("minutes", x.rule(4), 7);
            x.put(0);
            due("over ahead", x.go(1, 0, false), 20);
            x.put(8);
            due("over behind", x.go(0, 1, false), 21);
            due("a minute went with it", x.rule(4), 9);
            due("who was sent rests then", x.side(1, 1), 1);
        });
    }

    private static void goRefused() {
        Edges.promise(20, "BAD: also more than FRESH; STATE: it is OVER", () -> {
            for (int n : new int[] {0, 1, 6, 11, 12}) {
                Edges.bounds("x of " + n, () -> fresh(n, 12), 0, n, (x, v) -> x.go(v, 0, false));
                Edges.bounds("y of " + n, () -> fresh(12, n), 0, n, (x, v) -> x.go(0, v, false));
                Edges.bounds("x of " + n + ", out", () -> fresh(n, 12), 0, n, (x, v) -> x.go(v, 12, true));
            }
            Edges.refused("more than fresh, some resting", Edges::busy, x -> x.go(x.side(0, 0) + 1, 0, false), -1);
            Edges.refused("more than fresh of 1", Edges::busy, x -> x.go(0, x.side(1, 0) + 1, true), -1);
            Edges.refused("over ahead", Edges::overAhead, x -> x.go(0, 0, false), -2);
            Edges.refused("over behind", Edges::overBehind, x -> x.go(0, 0, true), -2);
            Edges.bounds("x when it is over", MinuteEdges::overOfTwelve, 0, 11, (x, v) -> x.go(v, 0, false));
            Edges.bounds("y when it is over", MinuteEdges::overOfTwelve, 0, 12, (x, v) -> x.go(0, v, true));
        });
    }

    /** It is over by one man of twelve, who rests. */
    private static KegBrooks overOfTwelve() {
        KegBrooks x = fresh(12, 12);
        x.put(0);
        x.go(1, 0, false);
        return x;
    }

    private static void goFull() {
        Edges.promise(20, "FULL: it would be the 1000th (MINUTE is 999).", () -> {
            KegBrooks x = Edges.behind(997);
            due("the 998th", x.go(0, 0, false), 2);
            due("the 999th", x.go(1, 1, false), 2);
            due("minutes", x.rule(4), 999);
            due("the 1000th", x.go(0, 0, false), -3);
            due("the 1000th, out", x.go(1, 0, true), -3);
            due("the 999th, out", Edges.behind(998).go(1, 0, true), 0);
            due("minutes still", x.rule(4), 999);
            due("men still", x.side(0, 0) * 100 + x.side(0, 2), 201);
            Edges.refused("the 1000th", () -> Edges.behind(999), y -> y.go(0, 0, false), -3);
            Edges.refused("the 1000th by all", () -> Edges.behind(999), y -> y.go(3, 0, true), -3);
            Edges.bounds("x of the 1000th", () -> Edges.behind(999), 0, 3, (y, v) -> y.go(v, 0, false));
            Edges.bounds("y of the 1000th", () -> Edges.behind(999), 0, 3, (y, v) -> y.go(0, v, true));
            Edges.refused("STATE ahead of FULL", Edges::overAtTheLast, y -> y.go(0, 0, false), -2);
            // The 999th may be by which it is over.
            due("over in the 999th", Edges.overAtTheLast().rule(1), 20);
            // What would be has no minutes of its own that count.
            KegBrooks y = Edges.behind(999);
            y.slope(2, 4);
            due("ahead", y.ahead(1), 3);
            due("net", y.net(3, 3), 101);
            due("reply", y.reply(0, 1, 0), 3);
        });
    }

    private static void ahead() {
        Edges.promise(21, "Where THE KEG is behind n MINUTES (0 to 60) BY CAPTAINS.", () -> {
            KegBrooks x = swinging();
            for (int n = 0; n <= 60; n++) {
                due("swinging " + n, x.ahead(n), 1 + n % 2);
            }
            KegBrooks y = sliding(7);
            for (int n = 0; n <= 60; n++) {
                due("sliding " + n, y.ahead(n), n < 9 ? n : 21);
            }
            due("over ahead", Edges.overAhead().ahead(0), 20);
            due("over ahead in 60", Edges.overAhead().ahead(60), 20);
            due("over behind", Edges.overBehind().ahead(0), 21);
            due("over behind in 60", Edges.overBehind().ahead(60), 21);
            Edges.changesNothing("ahead", Edges::busy, z -> z.ahead(60));
            // As by go(), minute by minute.
            KegBrooks z = Edges.busy();
            for (int n = 1; n <= 20; n++) {
                int due = Edges.busy().ahead(n);
                due("minute " + n, z.rule(1) >= 20 ? z.rule(1) : z.go(z.sends(0), z.sends(1), false), due);
            }
        });
        Edges.promise(21, "BAD.", () -> {
            Edges.bounds("ahead", Edges::busy, 0, 60, KegBrooks::ahead);
            Edges.bounds("ahead when it is over", Edges::overAhead, 0, 60, KegBrooks::ahead);
        });
    }

    private static void over() {
        Edges.promise(22, "In which of 60 MINUTES BY CAPTAINS it is OVER first (1 on).", () -> {
            for (int keg = 0; keg < 9; keg++) {
                KegBrooks x = sliding(7);
                x.put(keg);
                due("from " + keg, x.over(), 9 - keg);
            }
            KegBrooks x = sixty();
            due("in the 60th", x.over(), 60);
            due("not in the 59th", x.ahead(59) < 20 ? 1 : 0, 1);
            due("behind the 60th", x.ahead(60) >= 20 ? 1 : 0, 1);
            x.go(x.sends(0), x.sends(1), false);
            due("in the 59th", x.over(), 59);
            Edges.changesNothing("over", Edges::busy, KegBrooks::over);
        });
        Edges.promise(22, "NONE: in none; 0: it is already.", () -> {
            due("nobody moves it", new KegBrooks().over(), -4);
            due("it swings", swinging().over(), -4);
            KegBrooks x = sixtyOne();
            due("in the 61st", x.over(), -4);
            x.go(x.sends(0), x.sends(1), false);
            due("it was the 61st", x.over(), 60);
            due("over ahead", Edges.overAhead().over(), 0);
            due("over behind", Edges.overBehind().over(), 0);
        });
    }

    /** Found by search: it is over in the 60th minute by captains. */
    private static KegBrooks sixty() {
        KegBrooks x = of("cells 9;keg 4;side 0 12 half 9;side 1 12 late 8;rest 4;slope 6 4;hedge 7 1;");
        x.go(3, 2, false);
        x.put(4);
        x.go(7, 5, false);
        x.put(4);
        return x;
    }

    /** Found by search: it is over in the 61st. */
    private static KegBrooks sixtyOne() {
        KegBrooks x = of("cells 9;keg 0;side 0 7 half 9;side 1 10 all 7;rest 4;room 0 2;slope 0 4;hedge 0 1;hedge 1 1;"
            + "hedge 2 1;hedge 3 2;hedge 4 1;hedge 5 1;hedge 6 3;hedge 7 3;");
        x.put(4);
        x.go(6, 1, false);
        x.put(0);
        return x;
    }

    // ---- by odds

    private static long power(long base, int n) {
        long all = 1;
        for (int k = 0; k < n; k++) {
            all *= base;
        }
        return all;
    }

    /** Of n minutes, how many of 8 to the power of n have so many breaks. */
    private static long ways(int n, int outs, int breaks) {
        long choose = 1;
        for (int k = 1; k <= outs; k++) {
            choose = choose * (n - outs + k) / k;
        }
        return choose * power(breaks, outs) * power(8 - breaks, n - outs);
    }

    private static void share(String what, long above, long below, long numerator, long denominator) {
        long a = above;
        long b = below;
        while (a % 2 == 0 && b % 2 == 0) {
            a /= 2;
            b /= 2;
        }
        due(what + ", numerator", numerator, above == 0 ? 0 : a);
        due(what + ", denominator", denominator, above == 0 ? 1 : b);
    }

    private static void byOdds() {
        Edges.terms("BY ODDS: in each MINUTE somebody BREAKS out by BREAK out of 8.", () -> {
            for (int breaks = 0; breaks <= 7; breaks++) {
                for (int n = 0; n <= 8; n++) {
                    KegBrooks x = sliding(breaks);
                    long over = 0;
                    long[] in = new long[9];
                    for (int outs = 0; outs <= n; outs++) {
                        if (n + outs > 8) {
                            over += ways(n, outs, breaks);
                        } else {
                            in[n + outs] += ways(n, outs, breaks);
                        }
                    }
                    String there = "BREAK " + breaks + ", behind " + n + ", in ";
                    for (int i = 0; i < 9; i++) {
                        share(there + i, in[i], power(8, n), x.odds(n, i, 0), x.odds(n, i, 1));
                    }
                    share(there + 20, 0, power(8, n), x.odds(n, 20, 0), x.odds(n, 20, 1));
                    share(there + 21, over, power(8, n), x.odds(n, 21, 0), x.odds(n, 21, 1));
                }
            }
            for (int a = 0; a < 5; a++) {
                for (int b = 0; b < 5; b++) {
                    int ofZero = a;
                    int ofOne = b;
                    for (int n = 0; n <= 8; n += 2) {
                        asByGo(() -> pushed(ofZero, ofOne, 1 + (ofZero + ofOne) % 7), n);
                    }
                }
            }
        });
    }

    /** A field on which both captains send, and breaks come of it. */
    static KegBrooks pushed(int kindOfZero, int kindOfOne, int breaks) {
        KegBrooks x = of("cells 6;keg 3;rest 2;hedge 1 1;hedge 3 1;slope 4 2;side 0 7 all 0;side 1 9 all 0;fools 1 1;");
        x.captain(0, kindOfZero, 4);
        x.captain(1, kindOfOne, 5);
        x.breaks(breaks);
        return x;
    }

    /** All rows of minutes with and without somebody breaking out, each by go(). */
    private static void asByGo(Edges.Setup setup, int n) {
        KegBrooks asked = setup.make();
        int cells = asked.rule(0);
        int breaks = asked.rule(3);
        long[] in = new long[cells + 2];
        for (int outs = 0; outs < 1 << n; outs++) {
            KegBrooks x = setup.make();
            for (int k = 0; k < n; k++) {
                if (x.rule(1) < 20) {
                    x.go(x.sends(0), x.sends(1), (outs >> k & 1) == 1);
                }
            }
            int many = Integer.bitCount(outs);
            int keg = x.rule(1);
            in[keg == 20 ? 0 : keg == 21 ? cells + 1 : keg + 1] += power(breaks, many) * power(8 - breaks, n - many);
        }
        long sum = 0;
        for (int place = 0; place < in.length; place++) {
            int i = place == 0 ? 20 : place > cells ? 21 : place - 1;
            share("behind " + n + " by captains in " + i, in[place], power(8, n), asked.odds(n, i, 0), asked.odds(n, i, 1));
            sum += place * in[place];
        }
        share("the mean behind " + n + " by captains", sum, power(8, n), asked.mean(n, 0), asked.mean(n, 1));
    }

    private static void odds() {
        Edges.promise(23, "BY ODDS, that THE KEG is in a CELL (or 20, 21) behind n MINUTES (0 to 8): 0, 1.", () -> {
            KegBrooks x = sliding(1);
            due("behind 8 in the last", x.odds(8, 8, 0), 5764801);
            due("behind 8 in the last, below", x.odds(8, 8, 1), 16777216);
            due("behind 8 over", x.odds(8, 21, 0), 11012415);
            due("behind 7 over", x.odds(7, 21, 0), 225033);
            due("behind 7 over, below", x.odds(7, 21, 1), 1048576);
            due("behind 0", x.odds(0, 0, 0), 1);
            due("behind 0, below", x.odds(0, 0, 1), 1);
            due("not behind 0", x.odds(0, 1, 0), 0);
            due("not behind 0, below", x.odds(0, 1, 1), 1);
            for (int n = 0; n <= 8; n += 8) {
                due("over ahead", Edges.overAhead().odds(n, 20, 0), 1);
                due("over ahead, not behind", Edges.overAhead().odds(n, 21, 0), 0);
                due("over behind", Edges.overBehind().odds(n, 21, 0), 1);
                due("over behind, in no cell", Edges.overBehind().odds(n, 5, 0), 0);
            }
            KegBrooks y = of("cells 3;keg 2;slope 0 2;slope 1 2;slope 2 2;break 4;");
            due("over ahead by breaks", y.odds(2, 20, 0), 3);
            due("over ahead by breaks, below", y.odds(2, 20, 1), 4);
            Edges.changesNothing("odds", Edges::busy, z -> z.odds(8, 3, 1));
        });
        Edges.promise(23, "BAD.", () -> {
            Edges.bounds("n", Edges::busy, 0, 8, (x, v) -> x.odds(v, 3, 0));
            Edges.bounds("what", Edges::busy, 0, 1, (x, v) -> x.odds(1, 3, v));
            Edges.places("odds", Edges::busy, 6, (x, v) -> x.odds(1, v, 0));
            for (int cells = 3; cells <= 9; cells++) {
                int n = cells;
                Edges.places("odds of " + n, () -> Edges.cells(n), n, (x, v) -> x.odds(0, v, 1));
            }
        });
    }

    private static void mean() {
        Edges.promise(24, "BY ODDS, 1 more than the mean of its CELL (20 as -1, 21 as CELLS) behind n MINUTES (0 to 8): 0, "
            + "1.", () -> {
            for (int breaks = 0; breaks <= 7; breaks++) {
                KegBrooks x = sliding(breaks);
                for (int n = 0; n <= 8; n++) {
                    long sum = 0;
                    for (int outs = 0; outs <= n; outs++) {
                        // Over as cell 9.
                        sum += ways(n, outs, breaks) * (1 + Math.min(9, n + outs));
                    }
                    share("BREAK " + breaks + ", behind " + n, sum, power(8, n), x.mean(n, 0), x.mean(n, 1));
                }
            }
            KegBrooks x = sliding(1);
            due("behind 8", x.mean(8, 0), 162007359);
            due("behind 8, below", x.mean(8, 1), 16777216);
            due("over ahead", Edges.overAhead().mean(0, 0), 0);
            due("over ahead, below", Edges.overAhead().mean(0, 1), 1);
            due("over ahead behind 8", Edges.overAhead().mean(8, 0), 0);
            for (int cells = 3; cells <= 9; cells++) {
                KegBrooks y = of("cells " + cells + ";keg " + (cells - 1) + ";side 1 1 all 0;");
                due("the last of " + cells, y.mean(0, 0), cells);
                y.go(0, 1, false);
                due("over behind " + cells, y.mean(0, 0), cells + 1);
                due("over behind " + cells + ", below", y.mean(8, 1), 1);
                y.put(0);
                due("the first of " + cells, y.mean(0, 0), 1);
            }
            KegBrooks y = of("cells 3;keg 0;slope 0 2;break 7;");
            due("over ahead for sure", y.mean(1, 0) * 10 + y.mean(1, 1), 1);
            y = of("cells 3;keg 1;slope 1 2;break 1;");
            due("7 of 8 in the first, 1 over", y.mean(1, 0), 7);
            due("of 8", y.mean(1, 1), 8);
            Edges.changesNothing("mean", Edges::busy, z -> z.mean(8, 0));
        });
        Edges.promise(24, "BAD.", () -> {
            Edges.bounds("n", Edges::busy, 0, 8, (x, v) -> x.mean(v, 0));
            Edges.bounds("what", Edges::busy, 0, 1, (x, v) -> x.mean(1, v));
        });
    }
}

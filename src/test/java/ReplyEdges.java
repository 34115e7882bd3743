/** Edges of promises 25 (reply) to 28 (without), and of what the terms tell of a reply. */
final class ReplyEdges extends Dues {
    private ReplyEdges() {
    }

    static void all() {
        replies();
        replyOver();
        reply();
        hold();
        holdBounds();
        table();
        without();
    }

    // ---- replies

    /** How far the keg is from a side's own brook. */
    private static int far(KegBrooks x, int s) {
        int keg = x.rule(1);
        int cells = x.rule(0);
        int place = keg == 20 ? 0 : keg == 21 ? cells + 1 : keg + 1;
        return s == 0 ? place : cells + 1 - place;
    }

    /** All rows of numbers one by one by go(): the first of those by which the keg is nearest behind n minutes. */
    private static void asByGo(Edges.Setup setup, int s, int n) {
        KegBrooks asked = setup.make();
        int[] row = new int[n];
        int[] best = null;
        int nearest = 99;
        int keg = -1;
        while (row != null) {
            KegBrooks x = setup.make();
            boolean can = true;
            for (int k = 0; k < n && can; k++) {
                if (x.rule(1) >= 20) {
                    can = row[k] == 0;
                } else {
                    int other = x.sends(1 - s);
                    can = x.go(s == 0 ? row[k] : other, s == 0 ? other : row[k], false) >= 0;
                }
            }
            if (can && far(x, s) < nearest) {
                nearest = far(x, s);
                best = row.clone();
                keg = x.rule(1);
            }
            row = next(row, asked.count(4 + s));
        }
        due("side " + s + " in " + n, asked.reply(s, n, 0), keg);
        for (int k = 0; k < n; k++) {
            due("side " + s + " in " + n + ", minute " + k, asked.reply(s, n, 10 + k), best[k]);
        }
    }

    private static int[] next(int[] row, int most) {
        for (int k = row.length - 1; k >= 0; k--) {
            if (row[k] < most) {
                row[k]++;
                return row;
            }
            row[k] = 0;
        }
        return null;
    }

    private static void replies() {
        Edges.terms("A REPLY of a SIDE in n MINUTES (1 to 4): numbers of men to SEND, MINUTE by MINUTE, the other SIDE BY "
            + "its CAPTAIN, no BREAKS; by which THE KEG is nearest to (or OVER) its own brook behind them; of several the "
            + "first by numbers, MINUTE by MINUTE.", () -> {
            String[] fields = {
                "cells 9;keg 4;side 0 2 all 0;side 1 3 half 0;rest 4;break 7;",
                "cells 5;keg 2;side 0 3 all 0;side 1 3 late 2;rest 1;hedge 1 1;hedge 2 1;",
                "cells 4;keg 1;side 0 3 half 0;side 1 2 follows 0;rest 2;slope 1 4;slope 2 2;room 1 1;",
                "cells 3;keg 1;side 0 3 steady 2;side 1 3 all 0;rest 3;fools 0 1;slope 0 4;slope 2 2;",
                "cells 9;keg 0;side 0 3 late 9;side 1 3 late 9;rest 2;hedge 0 1;slope 1 2;break 3;"};
            for (String field : fields) {
                for (int n = 1; n <= 4; n++) {
                    asByGo(() -> of(field), 0, n);
                    asByGo(() -> of(field), 1, n);
                }
            }
            // Nearest behind them all, not on the way: it waits, for who was sent rests.
            KegBrooks x = of("cells 9;keg 4;side 0 1 all 0;rest 4;");
            due("one push in four", x.reply(0, 4, 0), 3);
            int[] last = {0, 0, 0, 1};
            for (int k = 0; k < 4; k++) {
                due("men in " + k, x.reply(0, 4, 10 + k), last[k]);
            }
            due("in three", x.reply(0, 3, 12), 1);
            due("all who are fresh", of("cells 3;side 0 12 all 0;side 1 12 all 0;").reply(0, 1, 10), 12);
            due("nobody", of("cells 3;side 0 12 all 0;slope 1 2;").reply(0, 1, 10), 0);
            due("no breaks", of("cells 9;keg 8;side 0 1 all 0;break 7;").reply(0, 1, 0), 7);
        });
    }

    private static void replyOver() {
        Edges.terms("(When it is OVER in fewer MINUTES, numbers behind are 0.)", () -> {
            KegBrooks x = of("cells 3;keg 0;slope 0 6;slope 1 6;slope 2 6;side 0 4 all 0;rest 4;");
            due("over at once", x.reply(0, 4, 0), 20);
            int[] sent = {4, 0, 0, 0};
            for (int k = 0; k < 4; k++) {
                due("men in " + k, x.reply(0, 4, 10 + k), sent[k]);
            }
            // Lost at once, whatever is sent.
            KegBrooks y = of("cells 9;keg 0;side 0 5 all 0;side 1 3 all 0;");
            due("over the others' brook", y.reply(1, 4, 0), 20);
            for (int k = 0; k < 4; k++) {
                due("none in " + k, y.reply(1, 4, 10 + k), 0);
            }
            // Over its own brook is nearer than the cell ahead of it, over the other one is the farthest.
            due("over", of("cells 3;keg 0;side 0 1 all 0;").reply(0, 1, 0), 20);
            due("over behind", of("cells 3;keg 2;side 1 1 all 0;").reply(1, 1, 0), 21);
            KegBrooks z = of("cells 3;keg 2;side 0 3 all 0;side 1 3 all 0;");
            due("all stop them", z.reply(0, 1, 0), 2);
            due("all", z.reply(0, 1, 10), 3);
            due("of 1", of("cells 3;keg 0;side 0 3 all 0;side 1 3 all 0;").reply(1, 1, 10), 3);
        });
    }

    private static void reply() {
        Edges.promise(25, "A REPLY of a SIDE in n MINUTES: where THE KEG is then (what 0); 10 and k: men to SEND in "
            + "MINUTE k.", () -> {
            KegBrooks x = of("cells 9;keg 8;side 0 12 all 0;side 1 2 all 0;rest 1;");
            for (int n = 1; n <= 4; n++) {
                due("keg in " + n, x.reply(0, n, 0), 8 - n);
            }
            // Side 1 has two in the first and in the third minute.
            int[] sent = {3, 1, 3, 1};
            for (int k = 0; k < 4; k++) {
                due("men in " + k, x.reply(0, 4, 10 + k), sent[k]);
            }
            due("of side 1", x.reply(1, 1, 0), 7);
            due("by nobody", x.reply(1, 1, 10), 0);
            Edges.changesNothing("reply", Edges::busy, y -> y.reply(0, 4, 0) + y.reply(1, 4, 13));
        });
        Edges.promise(25, "BAD (also k no less than n); STATE: it is OVER.", () -> {
            Edges.bounds("n", Edges::busy, 1, 4, (x, v) -> x.reply(0, v, 0));
            Edges.bounds("n for minute 0", Edges::busy, 1, 4, (x, v) -> x.reply(1, v, 10));
            Edges.bounds("s", Edges::busy, 0, 1, (x, v) -> x.reply(v, 1, 0));
            for (int n = 1; n <= 4; n++) {
                int minutes = n;
                for (int what : Edges.numbers()) {
                    boolean told = what == 0 || what >= 10 && what <= 9 + n;
                    long got = Edges.busy().reply(0, n, what);
                    due("what " + what + " of " + n, got == -1 ? 0 : 1, told ? 1 : 0);
                    due("what " + what + " when it is over", Edges.overAhead().reply(0, n, what), told ? -2 : -1);
                }
                Edges.refused("k is n", Edges::busy, x -> x.reply(0, minutes, 10 + minutes), -1);
                Edges.refused("k is above n", Edges::busy, x -> x.reply(0, minutes, 11 + minutes), -1);
                Edges.refused("what 9", Edges::busy, x -> x.reply(0, minutes, 9), -1);
                Edges.refused("what 1", Edges::busy, x -> x.reply(0, minutes, 1), -1);
            }
            for (int s = 0; s < 2; s++) {
                int side = s;
                Edges.refused("over ahead", Edges::overAhead, x -> x.reply(side, 1, 0), -2);
                Edges.refused("over behind", Edges::overBehind, x -> x.reply(side, 4, 13), -2);
            }
            // What is BAD is so ahead of STATE, too.
            Edges.bounds("n when it is over", Edges::overAhead, 1, 4, (x, v) -> x.reply(0, v, 0));
            Edges.bounds("s when it is over", Edges::overBehind, 0, 1, (x, v) -> x.reply(v, 4, 0));
        });
    }

    // ---- what a captain holds

    /** The least number that holds, as told by ahead() of a steady captain. */
    private static int asByAhead(Edges.Setup setup, int s, int i, int n) {
        for (int number = 0; number <= 12; number++) {
            KegBrooks x = setup.make();
            x.captain(s, 2, number);
            boolean held = true;
            for (int m = 1; m <= n; m++) {
                int keg = x.ahead(m);
                held &= s == 0 ? keg == 20 || keg <= i : keg == 21 || keg < 20 && keg >= i;
            }
            if (held) {
                return number;
            }
        }
        return Edges.NONE;
    }

    // Found by search: fields in which the 20th minute counts.
    private static final String[] LONG_FIELDS = {
        "cells 8;keg 7;rest 4;side 0 8 all 10;side 1 4 late 7;hedge 0 1;slope 1 2;slope 2 2;hedge 2 1;slope 3 4;slope 4 0;"
            + "hedge 4 5;slope 6 2;hedge 6 2;",
        "cells 9;keg 0;rest 2;side 0 8 half 9;side 1 6 follows 11;slope 2 4;hedge 6 2;slope 8 5;",
        "cells 7;keg 0;rest 4;side 0 6 half 11;side 1 6 late 9;hedge 3 5;",
        "cells 7;keg 6;rest 4;side 0 8 half 7;side 1 6 half 7;slope 0 5;hedge 0 5;hedge 1 3;slope 2 4;hedge 4 0;slope 6 4;",
        "cells 8;keg 7;rest 2;side 0 11 steady 6;side 1 11 follows 2;slope 1 6;hedge 6 4;"};

    private static void hold() {
        Edges.promise(26, "The least NUMBER (0 to 12) with which a steady CAPTAIN of a SIDE keeps THE KEG, the other one as "
            + "it is, behind each of n MINUTES (1 to 20) from being beyond a CELL towards the other SIDE's brook.", () -> {
            for (String field : LONG_FIELDS) {
                int last = 0;
                KegBrooks x = of(field);
                for (int s = 0; s < 2; s++) {
                    for (int i = 0; i < x.rule(0); i++) {
                        for (int n : new int[] {1, 2, 19, 20}) {
                            due("hold(" + s + ", " + i + ", " + n + ") of " + field, x.hold(s, i, n),
                                asByAhead(() -> of(field), s, i, n));
                        }
                        last += x.hold(s, i, 19) != x.hold(s, i, 20) ? 1 : 0;
                    }
                }
                due("the 20th counts in " + field, last > 0 ? 1 : 0, 1);
            }
            for (int kind = 0; kind < 5; kind++) {
                againstKind(kind);
            }
            due("12", of("cells 3;side 0 12 all 0;side 1 12 all 0;").hold(0, 1, 1), 12);
            due("12 of side 1", of("cells 3;side 0 12 all 0;side 1 12 all 0;").hold(1, 1, 1), 12);
            due("0", new KegBrooks().hold(0, 2, 20), 0);
            // Behind each minute: it comes back by a slope, but has been beyond.
            due("each of 2", of("cells 4;keg 1;slope 1 4;slope 2 2;side 0 4 all 0;rest 1;").hold(0, 1, 2), 1);
            // Behind them, not now.
            due("not now", of("cells 4;keg 2;slope 2 2;").hold(0, 1, 1), 0);
            due("in the cell is not beyond it", new KegBrooks().hold(0, 2, 1), 0);
            due("one beyond it", new KegBrooks().hold(0, 1, 1), -4);
            due("of side 1: in the cell", new KegBrooks().hold(1, 2, 1), 0);
            due("of side 1: one beyond it", new KegBrooks().hold(1, 3, 1), -4);
            // Over its own brook is kept, over the other one is beyond the last cell.
            due("over its own", of("cells 3;keg 0;slope 0 0;").hold(0, 0, 20), 0);
            due("over its own, of 1", of("cells 3;keg 2;slope 2 6;").hold(1, 2, 20), 0);
            due("over the other", of("cells 3;keg 2;slope 2 6;side 0 3 all 0;").hold(0, 2, 1), 3);
            due("over the other, of 1", of("cells 3;keg 0;slope 0 0;side 1 3 all 0;").hold(1, 0, 1), 3);
            Edges.changesNothing("hold", Edges::busy, x -> x.hold(0, 5, 20) + x.hold(1, 0, 20));
        });
    }

    /** The other captain is as he is, of whatever kind. */
    private static void againstKind(int kind) {
        for (int s = 0; s < 2; s++) {
            int other = 1 - s;
            Edges.Setup setup = () -> {
                KegBrooks x = of("cells 5;rest 2;side " + other + " 9 all 0;side " + (1 - other) + " 7 all 0;");
                x.captain(other, kind, 3);
                return x;
            };
            KegBrooks x = setup.make();
            for (int i = 0; i < 5; i++) {
                for (int n = 1; n <= 4; n++) {
                    due("side " + s + " against kind " + kind + ", cell " + i + ", " + n, x.hold(s, i, n),
                        asByAhead(setup, s, i, n));
                }
            }
        }
        int[] due = {Edges.NONE, 4, 3, 0, 7};
        KegBrooks x = of("cells 3;side 0 7 all 0;side 1 9 all 0;");
        x.captain(1, kind, kind == 3 ? 1 : 3);
        due("kind " + kind + " is stopped by", x.hold(0, 1, 1), due[kind]);
    }

    private static void holdBounds() {
        Edges.promise(26, "BAD; STATE: it is OVER; NONE: by none.", () -> {
            Edges.bounds("n", Edges::busy, 1, 20, (x, v) -> x.hold(0, 5, v));
            Edges.bounds("s", Edges::busy, 0, 1, (x, v) -> x.hold(v, 2, 1));
            for (int cells = 3; cells <= 9; cells++) {
                int n = cells;
                Edges.bounds("i of " + n, () -> Edges.cells(n), 0, n - 1, (x, v) -> x.hold(0, v, 1));
                Edges.bounds("i of " + n + " by 1", () -> Edges.cells(n), 0, n - 1, (x, v) -> x.hold(1, v, 20));
            }
            for (int s = 0; s < 2; s++) {
                int side = s;
                Edges.refused("over ahead", Edges::overAhead, x -> x.hold(side, 3, 1), -2);
                Edges.refused("over behind", Edges::overBehind, x -> x.hold(side, 3, 20), -2);
            }
            // What is BAD is so ahead of STATE, too.
            Edges.bounds("s when it is over", Edges::overAhead, 0, 1, (x, v) -> x.hold(v, 3, 1));
            Edges.bounds("i when it is over", Edges::overAhead, 0, 5, (x, v) -> x.hold(0, v, 1));
            Edges.bounds("n when it is over", Edges::overBehind, 1, 20, (x, v) -> x.hold(1, 3, v));
            Edges.Setup none = () -> of("cells 3;side 0 12 all 0;side 1 12 all 0;fools 0 1;");
            Edges.refused("by none", none, x -> x.hold(0, 1, 1), -4);
            due("by side 1 it is", none.make().hold(1, 1, 1), 11);
            due("too few men", of("cells 3;side 0 2 all 0;side 1 3 all 0;").hold(0, 1, 1), -4);
        });
    }

    // ---- captains against captains, hedges

    private static void table() {
        Edges.promise(27, "Where THE KEG would be behind n MINUTES (0 to 60), were CAPTAINS of KINDS a and b (NUMBERS as "
            + "they are).", () -> {
            String field = "cells 9;keg 4;side 0 9 all 3;side 1 8 half 5;rest 3;hedge 3 1;slope 5 2;slope 2 4;fools 1 1;";
            for (int a = 0; a < 5; a++) {
                for (int b = 0; b < 5; b++) {
                    KegBrooks x = of(field);
                    KegBrooks y = of(field);
                    y.captain(0, a, 3);
                    y.captain(1, b, 5);
                    for (int n : new int[] {0, 1, 2, 3, 7, 20, 59, 60}) {
                        due("kinds " + a + ", " + b + " behind " + n, x.table(a, b, n), y.ahead(n));
                    }
                }
            }
            KegBrooks x = MinuteEdges.swinging();
            for (int n = 0; n <= 60; n++) {
                due("behind " + n, x.table(2, 3, n), 1 + n % 2);
            }
            due("over ahead", Edges.overAhead().table(0, 0, 60), 20);
            due("over behind", Edges.overBehind().table(4, 4, 0), 21);
            // Numbers as they are: none is sent by 0.
            due("steady 0", MinuteEdges.swinging().table(2, 2, 1), 2);
            due("without breaks", MinuteEdges.sliding(7).table(0, 0, 1), 1);
            Edges.changesNothing("table", Edges::busy, y -> y.table(0, 1, 60));
        });
        Edges.promise(27, "BAD.", () -> {
            Edges.bounds("n", Edges::busy, 0, 60, (x, v) -> x.table(1, 2, v));
            for (int kind = 0; kind < 5; kind++) {
                int k = kind;
                Edges.bounds("a", Edges::busy, 0, 4, (x, v) -> x.table(v, k, 1));
                Edges.bounds("b", Edges::busy, 0, 4, (x, v) -> x.table(k, v, 1));
            }
            Edges.bounds("n when it is over", Edges::overAhead, 0, 60, (x, v) -> x.table(1, 2, v));
        });
    }

    private static void without() {
        Edges.promise(28, "Where it would be behind n MINUTES (0 to 60) BY CAPTAINS without the HEDGE of a CELL.", () -> {
            // A hedge keeps it from swinging.
            String field = "cells 4;keg 1;slope 1 4;slope 2 2;hedge 1 1;hedge 3 9;break 7;";
            KegBrooks x = of(field);
            due("with it", x.ahead(60), 1);
            for (int i = 0; i < 5; i++) {
                due("nobody moves it without hedge " + i, new KegBrooks().without(i, 1), 2);
                due("nor in 60 without hedge " + i, new KegBrooks().without(i, 60), 2);
            }
            for (int n = 0; n <= 60; n++) {
                due("without it, behind " + n, x.without(1, n), 1 + n % 2);
            }
            due("without the first", x.without(0, 59), 1);
            due("without the third", x.without(2, 59), 1);
            due("without that of the last", x.without(3, 59), 1);
            for (int cells = 3; cells <= 9; cells++) {
                for (int i = 0; i < cells; i++) {
                    // All hedges but one hold it, each way.
                    KegBrooks y = of("cells " + cells + ";side 0 9 all 0;side 1 9 all 0;");
                    for (int h = 0; h < cells; h++) {
                        y.hedge(h, 9);
                    }
                    y.put(i);
                    y.captain(0, 2, 0);
                    due("behind " + i + " of " + cells, y.without(i, 1), i + 1 < cells ? i + 1 : 21);
                    if (i > 0) {
                        due("behind " + i + ", another one", y.without(i - 1, 1), i + 1 < cells ? i : 21);
                    }
                    y.captain(0, 0, 0);
                    y.captain(1, 2, 0);
                    due("ahead of " + i + " of " + cells, y.without(Math.max(0, i - 1), 1), i > 0 ? i - 1 : 20);
                }
            }
            due("over ahead", Edges.overAhead().without(1, 60), 20);
            due("over behind", Edges.overBehind().without(1, 0), 21);
            Edges.changesNothing("without", Edges::busy, y -> y.without(3, 60) + y.without(1, 60));
        });
        Edges.promise(28, "BAD.", () -> {
            Edges.bounds("n", Edges::busy, 0, 60, (x, v) -> x.without(1, v));
            for (int cells = 3; cells <= 9; cells++) {
                int n = cells;
                Edges.bounds("i of " + n, () -> Edges.cells(n), 0, n - 1, (x, v) -> x.without(v, 60));
            }
            Edges.bounds("i when it is over", Edges::overAhead, 0, 5, (x, v) -> x.without(v, 1));
        });
    }
}

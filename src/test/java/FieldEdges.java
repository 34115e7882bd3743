/** Edges of promises 1 (a new object) and 6 (rule) to 17 (put). */
final class FieldEdges extends Dues {
    private FieldEdges() {
    }

    static void all() {
        newObject();
        rule();
        cell();
        side();
        room();
        slope();
        hedge();
        fool();
        men();
        captain();
        rest();
        breaks();
        put();
    }

    private static void newObject() {
        Edges.promise(1, "Five CELLS, nobody; SHEETS have nothing.", () -> {
            KegBrooks x = new KegBrooks();
            due("cells", x.rule(0), 5);
            due("the keg", x.rule(1), 2);
            due("rest", x.rule(2), 2);
            due("break", x.rule(3), 0);
            due("minute", x.rule(4), 0);
            for (int i = 0; i < 5; i++) {
                due("room " + i, x.cell(i, 0), 12);
                due("slope " + i, x.cell(i, 1), 3);
                due("hedge " + i, x.cell(i, 2), 0);
            }
            due("no sixth cell", x.cell(5, 0), -1);
            for (int what = 0; what < 8; what++) {
                due("side 0 by " + what, x.side(0, what), 0);
                due("side 1 by " + what, x.side(1, what), 0);
            }
            due("nothing is told", x.count(0), 0);
            due("no image", x.count(1), 0);
            due("no bytes", x.count(2), 0);
            due("no sheet 0", x.count(3), -4);
            due("nobody of side 0", x.count(4), 0);
            due("nobody of side 1", x.count(5), 0);
            due("no image 0", x.back(0), -2);
            due("no image 1", x.back(1), -2);
            due("no fault", x.fault(), 0);
            due("none torn", x.torn(), 0);
            due("no lie", x.lies(), 0);
            for (int k = 0; k < 4; k++) {
                due("sheet " + k, x.lay(k, 0, 0), -11);
                for (int lane = 0; lane < 3; lane++) {
                    due("sheet " + k + " of lane " + lane, x.read(k, lane, 0, 1), 0);
                    due("torn", x.torn(), 1);
                }
            }
            Edges.changesNothing("another object", KegBrooks::new, y -> Edges.busy().men(0, 0));
        });
    }

    private static void rule() {
        Edges.promise(6, "0 CELLS, 1 THE KEG, 2 REST, 3 BREAK, 4 MINUTE.", () -> {
            KegBrooks x = of("cells 3;keg 0;rest 1;break 0;");
            long[] least = {3, 0, 1, 0, 0};
            KegBrooks y = of("cells 9;keg 8;rest 4;break 7;");
            y.go(0, 0, false);
            long[] most = {9, 8, 4, 7, 1};
            for (int what = 0; what < 5; what++) {
                due("least of " + what, x.rule(what), least[what]);
                due("most of " + what, y.rule(what), most[what]);
            }
            due("over ahead", Edges.overAhead().rule(1), 20);
            due("over behind", Edges.overBehind().rule(1), 21);
            due("minute 999", Edges.behind(999).rule(4), 999);
        });
        Edges.promise(6, "BAD.", () -> Edges.bounds("rule", Edges::busy, 0, 4, KegBrooks::rule));
        Edges.promise(6, "BAD.", () -> Edges.changesNothing("rule", Edges::busy, x -> x.rule(1)));
    }

    private static void cell() {
        Edges.promise(7, "Of a CELL: 0 ROOM, 1 SLOPE, 2 HEDGE.", () -> {
            for (int cells = 3; cells <= 9; cells++) {
                KegBrooks x = Edges.cells(cells);
                for (int i = 0; i < cells; i++) {
                    x.room(i, 1 + i);
                    x.slope(i, i % 7);
                    x.hedge(i, 9 - i);
                }
                for (int i = 0; i < cells; i++) {
                    due("room " + i, x.cell(i, 0), 1 + i);
                    due("slope " + i, x.cell(i, 1), i % 7);
                    due("hedge " + i, x.cell(i, 2), 9 - i);
                }
            }
        });
        Edges.promise(7, "BAD.", () -> {
            for (int cells = 3; cells <= 9; cells++) {
                int n = cells;
                for (int what = 0; what < 3; what++) {
                    int w = what;
                    Edges.bounds("cell of " + n + " by " + w, () -> Edges.cells(n), 0, n - 1, (x, v) -> x.cell(v, w));
                }
            }
            Edges.bounds("what of cell 0", Edges::busy, 0, 2, (x, v) -> x.cell(0, v));
            Edges.bounds("what of the last", Edges::busy, 0, 2, (x, v) -> x.cell(5, v));
            due("over is no cell", Edges.overAhead().cell(20, 0), -1);
            due("nor over behind", Edges.overBehind().cell(21, 0), -1);
        });
    }

    private static void side() {
        Edges.promise(8, "Of a SIDE: 0 FRESH, 1 to 4 who RESTS for so many MINUTES still, 5 FOOLS, 6 KIND, 7 NUMBER of "
            + "its CAPTAIN.", () -> {
            KegBrooks x = of("cells 9;keg 4;side 0 12 late 11;side 1 11 follows 12;fools 0 5;fools 1 4;rest 4;");
            x.go(1, 1, false);
            x.go(2, 2, false);
            x.go(3, 1, false);
            x.go(4, 5, false);
            int[] ofZero = {2, 1, 2, 3, 4, 5, 3, 11};
            int[] ofOne = {2, 1, 2, 1, 5, 4, 4, 12};
            for (int what = 0; what < 8; what++) {
                due("side 0 by " + what, x.side(0, what), ofZero[what]);
                due("side 1 by " + what, x.side(1, what), ofOne[what]);
            }
        });
        Edges.promise(8, "BAD.", () -> {
            Edges.bounds("what of side 0", Edges::busy, 0, 7, (x, v) -> x.side(0, v));
            Edges.bounds("what of side 1", Edges::busy, 0, 7, (x, v) -> x.side(1, v));
            for (int what = 0; what < 8; what++) {
                int w = what;
                Edges.bounds("side by " + w, Edges::busy, 0, 1, (x, v) -> x.side(v, w));
            }
        });
    }

    /** What a call makes of a cell of three to nine cells, and of no other. */
    private static void ofCells(int what, int least, int most, Change change) {
        int[] first = {12, 3, 0};
        for (int cells = 3; cells <= 9; cells++) {
            int n = cells;
            for (int i = 0; i < n; i++) {
                KegBrooks x = Edges.cells(n);
                due("cell " + i + " of " + n + " becomes the least", change.of(x, i, least), first[what]);
                due("is the least", x.cell(i, what), least);
                due("it becomes the most", change.of(x, i, most), least);
                due("is the most", x.cell(i, what), most);
                due("refused", change.of(x, i, most + 1) + change.of(x, i, least - 1), -2);
                due("is the most still", change.of(x, i, most), most);
                for (int other = 0; other < n; other++) {
                    for (int w = 0; w < 3; w++) {
                        due("cell " + other + " by " + w, x.cell(other, w), other == i && w == what ? most : first[w]);
                    }
                }
            }
        }
    }

    /** A call that changes number i to v. */
    private interface Change {
        int of(KegBrooks x, int i, int v);
    }

    private static void cellBounds(int least, int most, Change change) {
        for (int cells = 3; cells <= 9; cells++) {
            int n = cells;
            Edges.bounds("cell of " + n, () -> Edges.cells(n), 0, n - 1, (x, v) -> change.of(x, v, most));
        }
        Edges.bounds("of the first cell", Edges::busy, least, most, (x, v) -> change.of(x, 0, v));
        Edges.bounds("of the last cell", Edges::busy, least, most, (x, v) -> change.of(x, 5, v));
        Edges.bounds("when it is over", Edges::overAhead, least, most, (x, v) -> change.of(x, 2, v));
    }

    private static void room() {
        Edges.promise(9, "ROOM of a CELL becomes v: what it was.", () -> ofCells(0, 1, 12, KegBrooks::room));
        Edges.promise(9, "BAD.", () -> cellBounds(1, 12, KegBrooks::room));
    }

    private static void slope() {
        Edges.promise(10, "SLOPE of a CELL becomes v: what it was.", () -> ofCells(1, 0, 6, KegBrooks::slope));
        Edges.promise(10, "BAD.", () -> cellBounds(0, 6, KegBrooks::slope));
    }

    private static void hedge() {
        Edges.promise(11, "HEDGE of a CELL becomes v: what it was.", () -> ofCells(2, 0, 9, KegBrooks::hedge));
        Edges.promise(11, "BAD.", () -> cellBounds(0, 9, KegBrooks::hedge));
    }

    private static void fool() {
        Edges.promise(12, "FOOLS of a SIDE become v: what they were.", () -> {
            for (int s = 0; s < 2; s++) {
                KegBrooks x = new KegBrooks();
                int was = 0;
                for (int v : new int[] {0, 5, 1, 0, 4, 5, 0}) {
                    due("of side " + s, x.fool(s, v), was);
                    due("they are", x.side(s, 5), v);
                    due("the others' are", x.side(1 - s, 5), 0);
                    was = v;
                }
            }
        });
        Edges.promise(12, "BAD.", () -> {
            Edges.bounds("fools of 0", Edges::busy, 0, 5, (x, v) -> x.fool(0, v));
            Edges.bounds("fools of 1", Edges::busy, 0, 5, (x, v) -> x.fool(1, v));
            Edges.bounds("fools of a side", Edges::busy, 0, 1, (x, v) -> x.fool(v, 3));
        });
    }

    private static void men() {
        Edges.promise(13, "FRESH men of a SIDE become v: how many there were.", () -> {
            for (int s = 0; s < 2; s++) {
                KegBrooks x = new KegBrooks();
                int was = 0;
                for (int v : new int[] {0, 12, 0, 1, 11, 12, 12}) {
                    due("of side " + s, x.men(s, v), was);
                    due("they are", x.side(s, 0), v);
                    due("the others are", x.side(1 - s, 0), 0);
                    was = v;
                }
            }
            KegBrooks x = of("side 0 5 all 0;rest 4;");
            x.go(2, 0, false);
            due("those who are fresh, not those who rest", x.men(0, 1), 3);
            due("who rests stays", x.side(0, 4), 2);
        });
        Edges.promise(13, "BAD (also if these and those who REST would be more than 12).", () -> {
            Edges.bounds("men of 0, nobody resting", KegBrooks::new, 0, 12, (x, v) -> x.men(0, v));
            Edges.bounds("men of 1, nobody resting", KegBrooks::new, 0, 12, (x, v) -> x.men(1, v));
            Edges.bounds("men of a side", KegBrooks::new, 0, 1, (x, v) -> x.men(v, 3));
            for (int rest = 1; rest <= 4; rest++) {
                for (int sent = 1; sent <= 12; sent++) {
                    int r = rest;
                    int n = sent;
                    for (int s = 0; s < 2; s++) {
                        int side = s;
                        KegBrooks x = resting(side, r, n);
                        due("13 by " + n + " resting for " + r, x.men(side, 13 - n), -1);
                        due("12", x.men(side, 12 - n), 12 - n);
                        due("is as it was", x.side(side, 0), 12 - n);
                        due("all", x.count(4 + side), 12);
                        due("nobody fresh", x.men(side, 0), 12 - n);
                        due("12 of the other", x.men(1 - side, 12), 0);
                        due("13 of the other", x.men(1 - side, 13), -1);
                    }
                }
            }
            Edges.bounds("7 rest", () -> resting(0, 3, 7), 0, 5, (x, v) -> x.men(0, v));
            Edges.bounds("12 rest", () -> resting(1, 1, 12), 0, 0, (x, v) -> x.men(1, v));
            // Some for each number of minutes.
            KegBrooks x = of("cells 9;keg 8;side 0 12 all 0;rest 4;");
            for (int m = 0; m < 4; m++) {
                x.go(1, 0, false);
            }
            due("4 rest, for 1 to 4", x.men(0, 9), -1);
            due("8 and 4", x.men(0, 8), 8);
        });
    }

    /** Twelve men of a side, so many of whom rest. */
    private static KegBrooks resting(int s, int rest, int sent) {
        KegBrooks x = of("cells 9;rest " + rest + ";");
        x.men(s, 12);
        x.go(s == 0 ? sent : 0, s == 0 ? 0 : sent, false);
        return x;
    }

    private static void captain() {
        Edges.promise(14, "A SIDE has a CAPTAIN of a KIND, with a NUMBER: of which KIND he was.", () -> {
            for (int s = 0; s < 2; s++) {
                KegBrooks x = new KegBrooks();
                int was = 0;
                for (int kind : new int[] {0, 4, 1, 3, 2, 0, 4}) {
                    for (int number : new int[] {0, 12, 5}) {
                        due("of side " + s, x.captain(s, kind, number), was);
                        due("kind", x.side(s, 6), kind);
                        due("number", x.side(s, 7), number);
                        due("the other's kind", x.side(1 - s, 6), 0);
                        due("the other's number", x.side(1 - s, 7), 0);
                        was = kind;
                    }
                }
            }
        });
        Edges.promise(14, "BAD.", () -> {
            for (int s = 0; s < 2; s++) {
                int side = s;
                Edges.bounds("kind of " + s, Edges::busy, 0, 4, (x, v) -> x.captain(side, v, 7));
                for (int kind = 0; kind < 5; kind++) {
                    int k = kind;
                    Edges.bounds("number of kind " + k, Edges::busy, 0, 12, (x, v) -> x.captain(side, k, v));
                }
            }
            Edges.bounds("captain of a side", Edges::busy, 0, 1, (x, v) -> x.captain(v, 1, 1));
        });
    }

    private static void rest() {
        Edges.promise(15, "REST becomes v (who RESTS does so as it was): what it was.", () -> {
            KegBrooks x = new KegBrooks();
            int was = 2;
            for (int v : new int[] {1, 4, 3, 2, 1, 1, 4}) {
                due("rest", x.rest(v), was);
                due("it is", x.rule(2), v);
                was = v;
            }
            for (int first = 1; first <= 4; first++) {
                for (int then = 1; then <= 4; then++) {
                    KegBrooks y = of("cells 9;side 0 12 all 0;rest " + first + ";");
                    y.go(5, 0, false);
                    y.rest(then);
                    for (int left = 1; left <= 4; left++) {
                        due("rest for " + left + ", sent by " + first + ", then " + then, y.side(0, left),
                            left == first ? 5 : 0);
                    }
                    y.go(2, 0, false);
                    int due = (then == first - 1 ? 5 : 0) + 2;
                    due("sent then, by " + then, y.side(0, then), due);
                }
            }
        });
        Edges.promise(15, "BAD.", () -> Edges.bounds("rest", Edges::busy, 1, 4, KegBrooks::rest));
    }

    private static void breaks() {
        Edges.promise(16, "BREAK becomes v: what it was.", () -> {
            KegBrooks x = new KegBrooks();
            int was = 0;
            for (int v : new int[] {0, 7, 1, 6, 7, 7, 0}) {
                due("break", x.breaks(v), was);
                due("it is", x.rule(3), v);
                was = v;
            }
        });
        Edges.promise(16, "BAD.", () -> Edges.bounds("break", Edges::busy, 0, 7, KegBrooks::breaks));
    }

    private static void put() {
        Edges.promise(17, "THE KEG is in a CELL: where it was.", () -> {
            for (int cells = 3; cells <= 9; cells++) {
                KegBrooks x = Edges.cells(cells);
                int was = cells / 2;
                for (int i : new int[] {0, cells - 1, 1, cells - 2, cells - 1, 0, 0}) {
                    due("it was", x.put(i), was);
                    due("it is", x.rule(1), i);
                    was = i;
                }
                due("no minute", x.rule(4), 0);
            }
            KegBrooks x = Edges.overAhead();
            due("it was over ahead", x.put(5), 20);
            due("it is over no more", x.rule(1), 5);
            due("so a minute goes", x.go(0, 0, false) >= 0 ? 1 : 0, 1);
            x = Edges.overBehind();
            due("it was over behind", x.put(0), 21);
            due("it is in the first", x.rule(1), 0);
        });
        Edges.promise(17, "BAD.", () -> {
            for (int cells = 3; cells <= 9; cells++) {
                int n = cells;
                Edges.bounds("put of " + n, () -> Edges.cells(n), 0, n - 1, KegBrooks::put);
            }
            Edges.bounds("put of the busy one", Edges::busy, 0, 5, KegBrooks::put);
            Edges.bounds("put when it is over", Edges::overAhead, 0, 5, KegBrooks::put);
        });
    }
}

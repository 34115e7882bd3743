/** Edges of promises 34 (keep) to 40 (count), and of what the terms tell of sheets. */
final class SheetEdges extends Dues {
    private SheetEdges() {
    }

    static void all() {
        keep();
        keepAll();
        back();
        sheets();
        sheet();
        lay();
        lowestBits();
        read();
        readParts();
        readOfNone();
        readRefused();
        readBounds();
        torn();
        count();
    }

    // ---- images

    private static void keep() {
        Edges.promise(34, "whether there was one (1, 0). BAD.", () -> {
            KegBrooks x = new KegBrooks();
            due("none at 0", x.keep(0), 0);
            due("one at 0", x.keep(0), 1);
            due("none at 1", x.keep(1), 0);
            due("one at 1", x.keep(1), 1);
            due("one at 0 still", x.keep(0), 1);
            due("images", x.count(1), 2);
            x.text();
            due("none behind a text", x.keep(1), 0);
            due("none at 0 behind it", x.keep(0), 0);
            due("back leaves it", x.back(0) + x.keep(0), 1);
            Edges.bounds("keep", Edges::busy, 0, 1, KegBrooks::keep);
            Edges.bounds("keep of none", KegBrooks::new, 0, 1, KegBrooks::keep);
            due("when it is over", Edges.overAhead().keep(1), 1);
        });
    }

    /** Everything that an image holds is changed. */
    private static void changeAll(KegBrooks x) {
        int cells = x.rule(0);
        for (int i = 0; i < cells; i++) {
            x.room(i, x.cell(i, 0) % 12 + 1);
            x.slope(i, (x.cell(i, 1) + 1) % 7);
            x.hedge(i, (x.cell(i, 2) + 1) % 10);
        }
        x.put(x.rule(1) == 2 ? 1 : 2);
        for (int s = 0; s < 2; s++) {
            x.men(s, (x.side(s, 0) + 1) % 3);
            x.captain(s, (x.side(s, 6) + 1) % 5, (x.side(s, 7) + 1) % 13);
            x.fool(s, (x.side(s, 5) + 1) % 6);
        }
        x.rest(x.rule(2) % 4 + 1);
        x.breaks((x.rule(3) + 1) % 8);
        x.go(x.side(0, 0), x.side(1, 0), false);
        x.put(x.rule(1) == 0 ? 1 : 0);
    }

    private static void sameLooks(String what, long[] got, long[] want) {
        for (int k = 0; k < want.length; k++) {
            due(what + ", answer " + k, got[k], want[k]);
        }
    }

    /** All is changed and taken back, so many times. */
    private static void asItWas(Edges.Setup setup, int k, int times) {
        KegBrooks x = setup.make();
        x.keep(1 - k);
        x.keep(k);
        long[] then = Edges.looks(x);
        for (int time = 0; time < times; time++) {
            changeAll(x);
            due("the keg is elsewhere", x.rule(1) == then[1] ? 1 : 0, 0);
            due("the minute", x.back(k), then[4]);
        }
        sameLooks("image " + k, Edges.looks(x), then);
        x.put(1);
        x.back(1 - k);
        sameLooks("image " + (1 - k), Edges.looks(x), then);
    }

    private static void keepAll() {
        Edges.promise(34, "IMAGE k (0, 1) is CELLS, THE KEG, SIDES, REST, BREAK, MINUTE", () -> {
            Edges.Setup[] setups = {Edges::busy, Edges::overAhead, Edges::overBehind, KegBrooks::new};
            for (Edges.Setup setup : setups) {
                for (int k = 0; k < 2; k++) {
                    asItWas(setup, k, 1);
                    // What is changed then is not changed in the image.
                    asItWas(setup, k, 2);
                }
            }
        });
        Edges.promise(34, "IMAGE k (0, 1) is CELLS", () -> {
            // What is told, the tape, the sheets, the faults are in no image.
            KegBrooks x = new KegBrooks();
            x.keep(0);
            x.tell(0, 1);
            x.sheet(0, 0, 5);
            feedText(x, "pie;");
            x.text();
            feedText(x, "rest 1;");
            x.read(1, 0, 0, 1);
            due("back", x.back(0), 0);
            due("told", x.count(0), 1);
            due("sheet", x.count(3), 5);
            due("tape", x.count(2), 7);
            due("fault", x.fault(), 2);
            due("torn", x.torn(), 1);
            due("the tape's text", x.text(), 1);
        });
    }

    private static void back() {
        Edges.promise(35, "All is as IMAGE k: MINUTE.", () -> {
            KegBrooks x = new KegBrooks();
            x.keep(0);
            x.go(0, 0, false);
            x.keep(1);
            x.go(0, 0, false);
            due("minute 0", x.back(0), 0);
            due("minute 1", x.back(1), 1);
            due("minute 1 again", x.back(1), 1);
            due("minute 0 again", x.back(0), 0);
            due("minute", x.rule(4), 0);
            KegBrooks y = Edges.behind(999);
            y.keep(1);
            y.text();
            y = Edges.behind(998);
            y.keep(0);
            y.go(0, 0, false);
            y.keep(1);
            due("998", y.back(0), 998);
            due("the 999th", y.go(0, 0, false), 2);
            due("the 1000th", y.go(0, 0, false), -3);
            due("999", y.back(1), 999);
            due("the 1000th once more", y.go(0, 0, false), -3);
            KegBrooks over = Edges.overAhead();
            over.keep(0);
            over.put(3);
            due("over again", over.back(0) * 100 + over.rule(1), 420);
            due("image 1 of the busy one", over.back(1) * 100 + over.sends(0) % 1, 200);
        });
        Edges.promise(35, "BAD; STATE: there is none.", () -> {
            for (int k = 0; k < 2; k++) {
                int image = k;
                Edges.Setup other = () -> {
                    KegBrooks x = Edges.behind(3);
                    x.keep(1 - image);
                    return x;
                };
                Edges.refused("none at " + k, KegBrooks::new, x -> x.back(image), -2);
                Edges.refused("the other alone, none at " + k, other, x -> x.back(image), -2);
                due("the other", other.make().back(1 - k), 3);
                Edges.refused("gone by a text", () -> {
                    KegBrooks x = Edges.busy();
                    x.text();
                    return x;
                }, x -> x.back(image), -2);
            }
            Edges.bounds("back", Edges::busy, 0, 1, KegBrooks::back);
            Edges.bounds("back when it is over", Edges::overBehind, 0, 1, KegBrooks::back);
            // What is BAD is so ahead of STATE, too.
            Edges.bounds("back of none", KegBrooks::new, 0, 1, KegBrooks::back);
        });
    }

    // ---- sheets

    /** A field on which twelve of each side can be sent, and who was rests for 1 minute. */
    private static KegBrooks field() {
        return of("cells 9;keg 4;side 0 12 all 0;side 1 12 all 0;rest 1;");
    }

    private static void sheets() {
        Edges.terms("SHEETS 0 to 3 are rows of BYTES (lane 0), SHORTS (1), INTS (2), all with a sign, with 0 to 40 CELLS, or "
            + "nothing (at first).", () -> {
            for (int k = 0; k < 4; k++) {
                for (int lane = 0; lane < 3; lane++) {
                    KegBrooks x = field();
                    due("nothing at first", x.lay(k, 0, 0), -11);
                    due("of no cells", x.sheet(k, lane, 0), 1);
                    due("it has none", x.lay(k, 0, 0), -12);
                    due("of forty", x.sheet(k, lane, 40), 1);
                    due("the first", x.lay(k, 0, 5), 1);
                    due("the last", x.lay(k, 39, 6), 1);
                    due("none behind it", x.lay(k, 40, 0), -12);
                    due("as its lane", x.read(k, lane, 0, 1), 1);
                    due("five", x.side(0, 1), 5);
                    due("the last two", x.read(k, lane, 38, 1), 1);
                    due("six", x.side(1, 1), 6);
                    for (int other = 0; other < 3; other++) {
                        due("as lane " + other, x.read(k, other, 0, 1), other == lane ? 1 : 0);
                        due("torn as lane " + other, x.torn(), other == lane ? 0 : 3);
                    }
                    for (int other = 0; other < 4; other++) {
                        if (other != k) {
                            due("nothing in " + other, x.lay(other, 0, 0), -11);
                        }
                    }
                }
            }
        });
        Edges.terms("A FAULT is what the machine finds: 1 NULL (nothing), 2 INDEX, 3 CAST (another lane), 4 SIZE (below 0).",
            () -> {
            KegBrooks x = field();
            x.read(2, 1, 0, 1);
            due("NULL", x.torn(), 1);
            due("NULL of lay", x.lay(2, 0, 0), -11);
            x.sheet(2, 1, 3);
            x.read(2, 1, 2, 1);
            due("INDEX", x.torn(), 2);
            due("INDEX of lay", x.lay(2, 3, 0), -12);
            x.read(2, 2, 0, 1);
            due("CAST", x.torn(), 3);
            due("SIZE", x.sheet(2, 1, -1), -14);
            // By the first that the machine meets: nothing has no lane, another lane no cells.
            x.read(3, 0, -5, 1);
            due("NULL ahead of INDEX", x.torn(), 1);
            x.read(2, 0, -5, 1);
            due("CAST ahead of INDEX", x.torn(), 3);
        });
    }

    private static void sheet() {
        Edges.promise(36, "A SHEET is a new row of CELLS 0: 1.", () -> {
            for (int n = 0; n <= 40; n++) {
                KegBrooks x = field();
                for (int lane = 2; lane >= 0; lane--) {
                    due("of " + n, x.sheet(0, lane, n), 1);
                    due("it has " + n, x.count(3), n);
                    int minutes = n / 2;
                    due("all are 0", x.read(0, lane, 0, minutes), minutes);
                    due("nobody was sent", x.side(0, 1) + x.side(1, 1), 0);
                    for (int i = 0; i < n; i++) {
                        x.lay(0, i, 7);
                    }
                    due("anew", x.sheet(0, lane, n), 1);
                    due("all are 0 anew", x.read(0, lane, 0, minutes), minutes);
                    due("nobody was sent by it", x.side(0, 1) + x.side(1, 1), 0);
                }
            }
            // A longer one has no cell of a shorter one, nor of a longer one before.
            KegBrooks x = field();
            x.sheet(1, 0, 4);
            x.lay(1, 2, 9);
            x.sheet(1, 0, 1);
            x.sheet(1, 0, 4);
            due("of a longer one before", x.read(1, 0, 2, 1) * 10 + x.side(0, 1), 10);
            KegBrooks y = Edges.busy();
            due("sheet 3", y.sheet(3, 2, 2), 1);
            due("sheet 0 stays", y.count(3), 6);
            due("sheet 1 stays", y.lay(1, 3, 0), 1);
        });
        Edges.promise(36, "BAD: also n above 40; -14 (SIZE): n below 0.", () -> {
            for (int v : Edges.numbers()) {
                due("n " + v, Edges.busy().sheet(1, 1, v), v < 0 ? -14 : v > 40 ? -1 : 1);
                due("n " + v + " of no sheet", Edges.busy().sheet(4, 1, v), -1);
                due("n " + v + " of no lane", Edges.busy().sheet(1, 3, v), -1);
                due("n " + v + " of no lane below", Edges.busy().sheet(1, -1, v), -1);
            }
            for (int v : new int[] {-1, MIN}) {
                for (int k = 0; k < 4; k++) {
                    int sheet = k;
                    Edges.refused("SIZE", Edges::busy, x -> x.sheet(sheet, 0, v), -14);
                }
                Edges.refused("BAD (k) ahead of SIZE", Edges::busy, x -> x.sheet(-1, 0, v), -1);
                Edges.refused("BAD (lane) ahead of SIZE", Edges::busy, x -> x.sheet(0, 3, v), -1);
            }
            Edges.refused("41", Edges::busy, x -> x.sheet(0, 0, 41), -1);
            Edges.refused("41 of nothing", Edges::busy, x -> x.sheet(3, 0, 41), -1);
            Edges.bounds("k", Edges::busy, 0, 3, (x, v) -> x.sheet(v, 2, 40));
            for (int k = 0; k < 4; k++) {
                int sheet = k;
                Edges.bounds("lane", Edges::busy, 0, 2, (x, v) -> x.sheet(sheet, v, 0));
            }
        });
    }

    private static void lay() {
        Edges.promise(37, "BAD: k; -10 less the FAULT: NULL, INDEX.", () -> {
            Edges.bounds("k", Edges::busy, 0, 3, (x, v) -> x.lay(v, 0, 1));
            for (int v : Edges.numbers()) {
                due("cell " + v + " of six", Edges.busy().lay(0, v, 1), v >= 0 && v < 6 ? 1 : -12);
                due("cell " + v + " of nothing", Edges.busy().lay(3, v, 1), -11);
                due("cell " + v + " of no sheet", Edges.busy().lay(4, v, 1), -1);
            }
            for (int n = 0; n <= 40; n++) {
                KegBrooks x = new KegBrooks();
                x.sheet(2, n % 3, n);
                due("ahead of the first of " + n, x.lay(2, -1, 1), -12);
                due("the first of " + n, x.lay(2, 0, 1), n > 0 ? 1 : -12);
                due("the last of " + n, x.lay(2, n - 1, 1), n > 0 ? 1 : -12);
                due("behind the last of " + n, x.lay(2, n, 1), -12);
            }
            for (int i : new int[] {-1, 6, MIN, MAX}) {
                Edges.refused("INDEX " + i, Edges::busy, x -> x.lay(0, i, 1), -12);
                Edges.refused("NULL at " + i, Edges::busy, x -> x.lay(3, i, 1), -11);
            }
            Edges.refused("no sheet", Edges::busy, x -> x.lay(4, 0, 1), -1);
            Edges.refused("no sheet below", Edges::busy, x -> x.lay(-1, 0, 1), -1);
            Edges.refused("torn stays", Edges::busy, x -> x.lay(0, 6, 1), -12);
        });
    }

    private static void lowestBits() {
        Edges.promise(37, "CELL i of a SHEET becomes v (its lowest bits): 1.", () -> {
            for (int lane = 0; lane < 3; lane++) {
                for (int v : Edges.numbers()) {
                    int kept = lane == 0 ? (byte) v : lane == 1 ? (short) v : v;
                    boolean can = kept >= 0 && kept <= 12;
                    KegBrooks x = field();
                    x.sheet(1, lane, 4);
                    due("lay " + v + " in lane " + lane, x.lay(1, 2, v), 1);
                    due("read " + v + " in lane " + lane, x.read(1, lane, 2, 1), can ? 1 : -20);
                    due("sent by " + v, x.side(0, 1), can ? kept : 0);
                    due("none of side 1", x.side(1, 1), 0);
                    x.put(4);
                    due("the cell ahead of it", x.read(1, lane, 0, 1), 1);
                    due("sent by that", x.side(0, 1) + x.side(1, 1), 0);
                }
            }
            // Each cell by itself.
            for (int lane = 0; lane < 3; lane++) {
                KegBrooks x = field();
                x.sheet(3, lane, 40);
                for (int i = 0; i < 40; i++) {
                    x.lay(3, i, i % 13);
                }
                for (int i = 0; i < 39; i++) {
                    x.men(0, 12);
                    x.men(1, 12);
                    x.put(4);
                    due("cells " + i, x.read(3, lane, i, 1), 1);
                    due("x of " + i, x.side(0, 1), i % 13);
                    due("y of " + i, x.side(1, 1), (i + 1) % 13);
                    x.put(4);
                    x.go(0, 0, false);
                }
            }
        });
    }

    /** A sheet of pairs, so many men of each side each minute. */
    private static KegBrooks laid(int lane, int... cells) {
        KegBrooks x = field();
        x.sheet(0, lane, cells.length);
        for (int i = 0; i < cells.length; i++) {
            x.lay(0, i, cells[i]);
        }
        return x;
    }

    private static void read() {
        Edges.promise(38, "n (0 to 20) MINUTES (x, y; nobody BREAKS out) are read of a SHEET taken as of a lane, two CELLS "
            + "each from CELL f on, one behind another as by go(): how many went.", () -> {
            int[] ofZero = {0, 2, 1, 3};
            int[] ofOne = {1, 0, 3, 2};
            for (int lane = 0; lane < 3; lane++) {
                for (int n = 0; n <= 20; n++) {
                    KegBrooks x = laid(lane, new int[40]);
                    for (int k = 0; k < 20; k++) {
                        x.lay(0, 2 * k, ofZero[k % 4]);
                        x.lay(0, 2 * k + 1, ofOne[k % 4]);
                    }
                    KegBrooks y = field();
                    int keg = 4;
                    for (int k = 0; k < n; k++) {
                        keg = y.go(ofZero[k % 4], ofOne[k % 4], false);
                    }
                    due("minutes of " + n, x.read(0, lane, 0, n), n);
                    due("torn", x.torn(), 0);
                    due("keg", x.rule(1), keg);
                    due("minute", x.rule(4), n);
                    for (int what = 0; what < 5; what++) {
                        due("side 0", x.side(0, what), y.side(0, what));
                        due("side 1", x.side(1, what), y.side(1, what));
                    }
                }
            }
            KegBrooks x = laid(1, 12, 0, 0, 12);
            x.breaks(7);
            due("x is of side 0", x.read(0, 1, 0, 1) * 10 + x.rule(1), 13);
            due("y of side 1, nobody breaks out", x.read(0, 1, 2, 1) * 10 + x.rule(1), 14);
            due("from cell 1 on", x.read(0, 1, 1, 1) * 10 + x.rule(1), 14);
            due("over in the last", laid(0, 1, 0, 1, 0, 1, 0, 1, 0, 1, 0).read(0, 0, 0, 5), 5);
        });
    }

    private static void readParts() {
        Edges.promise(38, "What the machine refuses: those that were whole ahead went (its FAULT is asked by torn()", () -> {
            for (int size = 0; size <= 40; size++) {
                for (int f = 0; f <= 41; f++) {
                    KegBrooks x = field();
                    x.sheet(0, 1, size);
                    int whole = f >= size ? 0 : (size - f) / 2;
                    due("20 of " + size + " from " + f, x.read(0, 1, f, 20), Math.min(20, whole));
                    due("torn", x.torn(), whole >= 20 ? 0 : 2);
                    due("they went", x.rule(4), Math.min(20, whole));
                    if (whole > 0) {
                        due("just those that are whole", x.read(0, 1, f, whole), whole);
                        due("none torn", x.torn(), 0);
                    }
                }
            }
            for (int f : Edges.numbers()) {
                if (f < 0 || f >= 39) {
                    KegBrooks x = field();
                    x.sheet(0, 0, 40);
                    due("from " + f, x.read(0, 0, f, 20), 0);
                    due("torn from " + f, x.torn(), 2);
                    due("none went", x.rule(4), 0);
                }
            }
            KegBrooks x = laid(2, 3, 0, 2, 0, 1);
            due("two are whole", x.read(0, 2, 0, 20), 2);
            due("torn by index", x.torn(), 2);
            due("they were sent", x.side(0, 1) * 100 + x.rule(1), 202);
            due("nothing", x.read(1, 2, 0, 20), 0);
            due("torn by null", x.torn(), 1);
            due("another lane", x.read(0, 1, 0, 20), 0);
            due("torn by cast", x.torn(), 3);
            due("no minute went by these", x.rule(4), 2);
            Edges.changesNothing("half a minute", () -> tornBy(2), y -> y.read(0, 0, 5, 1));
            Edges.changesNothing("of nothing", () -> tornBy(1), y -> y.read(3, 0, 0, 20));
            Edges.changesNothing("of another lane", () -> tornBy(3), y -> y.read(0, 1, 0, 20));
        });
    }

    /** The busy one, the latest read of which was torn by a fault. */
    private static KegBrooks tornBy(int fault) {
        KegBrooks x = Edges.busy();
        switch (fault) {
            case 0: x.read(0, 0, 0, 0); break;
            case 1: x.read(3, 0, 0, 1); break;
            case 2: x.read(0, 0, -1, 1); break;
            default: x.read(0, 2, 0, 1); break;
        }
        return x;
    }

    private static void readOfNone() {
        Edges.promise(38, "of n 0: 0, no FAULT, whatever the SHEET is).", () -> {
            for (int k = 0; k < 4; k++) {
                for (int lane = 0; lane < 3; lane++) {
                    for (int f : new int[] {0, 5, 40, -1, MIN, MAX}) {
                        KegBrooks x = tornBy(3);
                        due("of sheet " + k + " as lane " + lane + " from " + f, x.read(k, lane, f, 0), 0);
                        due("none torn", x.torn(), 0);
                        due("no minute", x.rule(4), 3);
                    }
                }
            }
            due("when it is over", Edges.overAhead().read(0, 0, 0, 0), 0);
            due("behind the 999th", Edges.behind(999).read(0, 2, 0, 0), 0);
            due("BAD lane of no minutes", Edges.busy().read(0, 3, 0, 0), -1);
            due("BAD sheet of no minutes", Edges.busy().read(4, 0, 0, 0), -1);
            Edges.changesNothing("of no minutes", () -> tornBy(0), x -> x.read(1, 0, 77, 0));
        });
    }

    private static void readRefused() {
        Edges.promise(38, "-20 less i (0 on): the i-th, whole, is refused by go() (in whichever way): then none went; the "
            + "first met.", () -> {
            for (int i = 0; i < 20; i++) {
                for (int bad : new int[] {13, -1, 127, -128}) {
                    for (int which = 0; which < 2; which++) {
                        int at = i;
                        int cell = 2 * i + which;
                        Edges.Setup setup = () -> {
                            KegBrooks x = laid(0, new int[40]);
                            x.read(2, 0, 0, 1);
                            x.lay(0, cell, bad);
                            return x;
                        };
                        KegBrooks x = setup.make();
                        due("the " + i + "-th by " + bad, x.read(0, 0, 0, 20), -20 - i);
                        due("none went", x.rule(4), 0);
                        due("torn stays", x.torn(), 1);
                        due("those ahead of it", x.read(0, 0, 0, i), i);
                        if (bad == 13) {
                            Edges.changesNothing("refused", setup, y -> y.read(0, 0, 0, at + 1));
                        }
                    }
                }
            }
            // Over by the first two: the third is refused. All four of side 0 rest by the second.
            KegBrooks over = laid(1, 1, 0, 1, 0, 0, 0);
            over.put(1);
            due("over, then", over.read(0, 1, 0, 3), -22);
            due("the keg is where it was", over.rule(1), 1);
            due("no minute", over.rule(4), 0);
            due("without it", over.read(0, 1, 0, 2), 2);
            due("it is over", over.rule(1), 20);
            due("at once", over.read(0, 1, 0, 1), -20);
            due("who rests is not fresh", laid(2, 7, 0, 6, 0).read(0, 2, 0, 2), -21);
            due("who is fresh is", laid(2, 7, 0, 5, 0).read(0, 2, 0, 2), 2);
            due("behind 998 the second", Edges.behind(998).read(0, 2, 0, 2), -21);
            due("behind 998 the first", Edges.behind(998).read(0, 2, 0, 1), 1);
            due("behind 979 all", Edges.behind(979).read(0, 2, 0, 20), 20);
            due("behind 980 the last", Edges.behind(980).read(0, 2, 0, 20), -39);
            due("behind 999", Edges.behind(999).read(0, 2, 0, 20), -20);
            Edges.refused("the 1000th", () -> Edges.behind(990), x -> x.read(0, 2, 0, 10), -29);
            firstMet();
        });
    }

    private static void firstMet() {
        due("refused ahead of half a minute", laid(1, 0, 0, 13, 0, 1).read(0, 1, 0, 3), -21);
        due("two are refused", laid(1, 13, 0, -1, 0).read(0, 1, 0, 2), -20);
        KegBrooks half = laid(1, 0, 0, 13);
        due("half a minute is not whole", half.read(0, 1, 0, 2), 1);
        due("torn", half.torn(), 2);
        KegBrooks ahead = laid(1, 13, 0, 0);
        due("half a minute is behind it", ahead.read(0, 1, 0, 20), -20);
        KegBrooks over = Edges.overAhead();
        due("NULL ahead of a refusal", over.read(3, 0, 0, 1), 0);
        due("CAST ahead of a refusal", over.read(0, 1, 0, 1), 0);
        due("INDEX ahead of a refusal", over.read(0, 0, 5, 1), 0);
        due("the refusal", over.read(0, 0, 4, 1), -20);
        due("from below 0", over.read(0, 0, -1, 1), 0);
    }

    private static void readBounds() {
        Edges.promise(38, "BAD: k, lane, n;", () -> {
            Edges.bounds("k", Edges::busy, 0, 3, (x, v) -> x.read(v, 0, 0, 0));
            Edges.bounds("lane", Edges::busy, 0, 2, (x, v) -> x.read(0, v, 0, 0));
            Edges.bounds("n", Edges::busy, 0, 20, (x, v) -> x.read(3, 0, 0, v));
            Edges.bounds("n of a sheet", () -> laid(0, new int[40]), 0, 20, (x, v) -> x.read(0, 0, 0, v));
            Edges.refused("BAD (n) of nothing", Edges::busy, x -> x.read(3, 0, 0, 21), -1);
            Edges.refused("BAD (lane) of nothing", Edges::busy, x -> x.read(3, 3, 0, 1), -1);
            Edges.refused("BAD when it is over", Edges::overAhead, x -> x.read(0, 0, 0, -1), -1);
            Edges.refused("BAD behind the 999th", () -> Edges.behind(999), x -> x.read(0, 2, 0, 21), -1);
        });
    }

    private static void torn() {
        Edges.promise(39, "The FAULT of the latest read() that answered 0 or more; 0 (one that is refused leaves it).", () -> {
            due("at first", new KegBrooks().torn(), 0);
            for (int fault = 0; fault <= 3; fault++) {
                KegBrooks x = tornBy(fault);
                due("torn", x.torn(), fault);
                x.read(4, 0, 0, 1);
                x.read(0, 3, 0, 1);
                x.read(0, 0, 0, 21);
                due("BAD leaves it", x.torn(), fault);
                x.lay(0, 0, 99);
                due("refused", x.read(0, 0, 0, 1), -20);
                due("one that is refused leaves it", x.torn(), fault);
                x.lay(3, 0, 0);
                x.sheet(3, 0, -1);
                due("other calls leave it", x.torn(), fault);
                x.end(0);
                x.text();
                due("a text leaves it", x.torn(), fault);
                x.read(0, 0, 2, 0);
                due("of n 0 none", x.torn(), 0);
            }
            KegBrooks x = field();
            x.sheet(0, 0, 4);
            x.read(0, 0, 0, 3);
            due("some went", x.torn(), 2);
            x.read(0, 0, 0, 2);
            due("all went", x.torn(), 0);
            Edges.changesNothing("torn", Edges::busy, KegBrooks::torn);
        });
    }

    private static void count() {
        Edges.promise(40, "How many: 0 TOLD, 1 IMAGES, 2 bytes on THE TAPE, 3 CELLS of SHEET 0 (NONE: nothing), 4 men of SIDE "
            + "0, 5 of SIDE 1 (FRESH, RESTING).", () -> {
            KegBrooks x = new KegBrooks();
            int[] first = {0, 0, 0, -4, 0, 0};
            for (int what = 0; what < 6; what++) {
                due("at first " + what, x.count(what), first[what]);
            }
            for (int k = 1; k <= 8; k++) {
                x.tell(0, 0);
                due("told", x.count(0), k);
            }
            x.tell(0, 0);
            due("eight at the most", x.count(0), 8);
            x.keep(1);
            due("image 1 alone", x.count(1), 1);
            x.keep(1);
            due("once more", x.count(1), 1);
            x.keep(0);
            due("both", x.count(1), 2);
            for (int n = 1; n <= 41; n++) {
                x.feed(0x2020202020202020L);
                due("bytes", x.count(2), Math.min(320, 8 * n));
            }
            x.sheet(1, 0, 9);
            due("sheet 1 is not sheet 0", x.count(3), -4);
            x.sheet(0, 0, 0);
            due("no cells are something", x.count(3), 0);
            x.sheet(0, 0, 40);
            due("forty cells", x.count(3), 40);
            x.text();
            due("told behind a text", x.count(0), 0);
            due("images behind a text", x.count(1), 0);
            due("bytes behind a text", x.count(2), 0);
            due("cells behind a text", x.count(3), 40);
            KegBrooks y = of("cells 9;side 0 12 all 0;side 1 11 all 0;rest 4;");
            for (int m = 0; m < 4; m++) {
                y.go(3, 2, false);
                due("men of side 0", y.count(4), 12);
                due("men of side 1", y.count(5), 11);
            }
            due("nobody is fresh", y.side(0, 0), 0);
            y.put(4);
            y.go(0, 0, false);
            y.men(0, 1);
            due("one fresh, nine resting", y.count(4), 10);
            Edges.changesNothing("count", Edges::busy, z -> z.count(3));
        });
        Edges.promise(40, "BAD.", () -> Edges.bounds("count", Edges::busy, 0, 5, KegBrooks::count));
    }
}

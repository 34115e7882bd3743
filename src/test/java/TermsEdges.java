/** Edges of the terms: answers, cells, sides, captains, minutes. (The tape's are in TextEdges, the sheets' in SheetEdges.) */
final class TermsEdges extends Dues {
    private static final String[] KINDS = {"all", "half", "steady", "late", "follows"};

    private TermsEdges() {
    }

    static void all() {
        calls();
        answers();
        firstThatFits();
        refusals();
        numbering();
        fractions();
        cells();
        theKeg();
        sides();
        rules();
        captains();
        late();
        push();
        net();
        way();
        breaksOut();
        rests();
        overAndMinutes();
        byCaptains();
    }

    private static void calls() {
        Edges.edge("What it is", "An object is used for at most 512 calls after it has been made", () -> {
            KegBrooks x = new KegBrooks();
            for (int call = 1; call <= 511; call++) {
                due("call " + call, x.men(0, call % 13), (call - 1) % 13);
            }
            due("call 512", x.side(0, 0), 511 % 13);
        });
    }

    private static void answers() {
        Edges.terms("BAD -1 (a number is not as told, there is no such CELL, SIDE, TELLING, IMAGE, SHEET)", () -> {
            due("BAD", KegBrooks.BAD, -1);
            KegBrooks x = new KegBrooks();
            due("no number", x.rule(5), -1);
            due("no cell", x.cell(5, 0), -1);
            due("no side", x.side(2, 0), -1);
            due("no telling", x.forget(1), -1);
            due("no image", x.keep(2), -1);
            due("no sheet", x.sheet(4, 0, 0), -1);
        });
        Edges.terms("STATE -2 (as told)", () -> {
            due("STATE", KegBrooks.STATE, -2);
            due("sends", Edges.overAhead().sends(0), -2);
        });
        Edges.terms("FULL -3", () -> {
            due("FULL", KegBrooks.FULL, -3);
            due("go", Edges.behind(999).go(0, 0, false), -3);
        });
        Edges.terms("NONE -4 (there is none)", () -> {
            due("NONE", KegBrooks.NONE, -4);
            due("over", new KegBrooks().over(), -4);
        });
    }

    private static void firstThatFits() {
        Edges.terms("the first that fits", () -> {
            KegBrooks x = Edges.overAtTheLast();
            due("minutes", x.rule(4), 999);
            due("the keg", x.rule(1), 20);
            due("go: BAD ahead of STATE and FULL", x.go(4, 0, false), -1);
            due("go: STATE ahead of FULL", x.go(0, 0, false), -2);
            due("net: BAD ahead of STATE", x.net(0, 4), -1);
            due("sends: BAD ahead of STATE", x.sends(2), -1);
            due("reply: BAD ahead of STATE", x.reply(0, 5, 0), -1);
            due("reply: BAD (what) ahead of STATE", x.reply(0, 1, 11), -1);
            due("hold: BAD ahead of STATE", x.hold(0, 5, 1), -1);
            due("back: BAD ahead of STATE", x.back(2), -1);
            KegBrooks y = Edges.behind(999);
            due("go: BAD ahead of FULL", y.go(4, 0, false), -1);
            due("go: FULL", y.go(0, 0, false), -3);
            KegBrooks told = new KegBrooks();
            for (int k = 0; k < 8; k++) {
                told.tell(0, 0);
            }
            due("tell: BAD (n) ahead of FULL", told.tell(13, 0), -1);
            due("tell: BAD (i) ahead of FULL", told.tell(0, 5), -1);
            due("tell: FULL", told.tell(0, 0), -3);
            KegBrooks none = of("cells 3;side 1 12 all 0;");
            due("hold: NONE", none.hold(0, 1, 1), -4);
            due("hold: BAD ahead of NONE", none.hold(0, 1, 0), -1);
            none.put(2);
            none.go(0, 12, false);
            due("hold: STATE ahead of NONE", none.hold(0, 1, 1), -2);
        });
    }

    private static void refusals() {
        Edges.terms("what is refused changes nothing (but THE TAPE, as told)", () -> {
            KegBrooks x = Edges.busy();
            x.end(0);
            long[] before = Edges.looks(x);
            for (String text : new String[] {"!", "pie;", "room 0 0;", "rest 1;rest 1;", "cells 3;keg 2;room 3 1;"}) {
                feedText(x, text);
                due("text of " + text, x.text() < 0 ? 1 : 0, 1);
                long[] after = Edges.looks(x);
                for (int k = 0; k < before.length - 1; k++) {
                    due("answer " + k + " behind " + text, after[k], before[k]);
                }
            }
            due("the tape", x.count(2), 0);
            KegBrooks y = Edges.busy();
            y.end(0);
            feedText(y, "cells 3;side 0 1 all 0;pie;");
            y.text();
            due("image 0 is as it was", y.back(0), 1);
            due("its cells", y.rule(0), 6);
            due("image 1 is as it was", y.back(1), 2);
            due("what is told is as it was", y.count(0), 3);
        });
    }

    private static void numbering() {
        Edges.terms("What is numbered has its numbers from 0 on, as it comes, where nothing else is told.", () -> {
            KegBrooks x = new KegBrooks();
            due("cell 0", x.put(0), 2);
            due("cell 0 has it", x.rule(1), 0);
            due("side 0", x.men(0, 1), 0);
            due("image 0", x.keep(0), 0);
            due("sheet 0", x.sheet(0, 0, 1), 1);
            due("its cell 0", x.lay(0, 0, 1), 1);
            due("the first telling, a lie", x.tell(0, 1), 1);
            due("the second one, none", x.tell(0, 0), 2);
            due("the third one, a lie", x.tell(0, 2), 3);
            due("bits 0 and 2", x.lies(), 5);
            due("none of cell -1", x.put(-1), -1);
            due("none of side -1", x.men(-1, 1), -1);
            due("none of image -1", x.keep(-1), -1);
            due("none of sheet -1", x.sheet(-1, 0, 1), -1);
        });
    }

    private static void fractions() {
        Edges.terms("Fractions are in lowest terms, told as two numbers, first the numerator, then the denominator, "
            + "which is above 0 (0 is 0 by 1).", () -> {
            // In one minute by a slope: BREAK of 8 for two cells, else one.
            int[][] lowest = {{0, 1}, {1, 8}, {1, 4}, {3, 8}, {1, 2}, {5, 8}, {3, 4}, {7, 8}};
            for (int b = 0; b <= 7; b++) {
                KegBrooks x = of("cells 9;keg 0;slope 0 4;break " + b + ";");
                due("two cells by " + b + " of 8", x.odds(1, 2, 0), lowest[b][0]);
                due("two cells by " + b + " of 8, below", x.odds(1, 2, 1), lowest[b][1]);
                long above = b == 0 ? 1 : lowest[b][1] - lowest[b][0];
                due("one cell by " + b + " of 8", x.odds(1, 1, 0), above);
                due("one cell by " + b + " of 8, below", x.odds(1, 1, 1), lowest[b][1]);
                due("0 by " + b + " of 8", x.odds(1, 0, 0), 0);
                due("0 by " + b + " of 8, below", x.odds(1, 0, 1), 1);
                // 2 and b of 8.
                due("mean by " + b + " of 8", x.mean(1, 0), 2 * lowest[b][1] + lowest[b][0]);
                due("mean by " + b + " of 8, below", x.mean(1, 1), lowest[b][1]);
            }
            KegBrooks over = of("cells 3;keg 0;slope 0 2;");
            due("mean 0", over.mean(1, 0), 0);
            due("mean 0 is 0 by 1", over.mean(1, 1), 1);
        });
    }

    // ---- cells

    private static void cells() {
        Edges.terms("CELLS 0 on (3 to 9; 5 at first)", () -> {
            due("at first", new KegBrooks().rule(0), 5);
            for (int n = 3; n <= 9; n++) {
                KegBrooks x = Edges.cells(n);
                due(n + " cells", x.rule(0), n);
                due("the first of " + n, x.cell(0, 0), 12);
                due("the last of " + n, x.cell(n - 1, 0), 12);
                due("one behind the last of " + n, x.cell(n, 0), -1);
                due("one ahead of the first of " + n, x.cell(-1, 0), -1);
            }
            refusedText("cells 2;", 3, 6);
            refusedText("cells 10;", 3, 6);
            refusedText("cells 0;", 3, 6);
        });
        Edges.terms("ROOM (how many of a SIDE can act: 1 to 12; 12)", () -> {
            due("at first", new KegBrooks().cell(2, 0), 12);
            for (int room = 1; room <= 12; room++) {
                KegBrooks x = of("side 0 12 all 0;room 2 " + room + ";");
                due("one less than room " + room, x.net(room - 1, 0), 101 - room);
                due("as many as room " + room, x.net(room, 0), 100 - room);
                due("more than room " + room, x.net(12, 0), 100 - room);
            }
            due("0", new KegBrooks().room(2, 0), -1);
            due("13", new KegBrooks().room(2, 13), -1);
        });
        Edges.terms("a SLOPE (0 to 6; 3)", () -> {
            due("at first", new KegBrooks().cell(2, 1), 3);
            for (int slope = 0; slope <= 6; slope++) {
                due("slope " + slope, of("slope 2 " + slope + ";").net(0, 0), 97 + slope);
            }
            due("-1", new KegBrooks().slope(2, -1), -1);
            due("7", new KegBrooks().slope(2, 7), -1);
        });
        Edges.terms("a HEDGE behind it, towards the next CELL (0 to 9; 0; of the last one none counts)", () -> {
            due("at first", new KegBrooks().cell(2, 2), 0);
            for (int hedge = 0; hedge <= 9; hedge++) {
                String field = "cells 3;side 0 12 all 0;side 1 12 all 0;hedge 1 " + hedge + ";hedge 2 9;";
                KegBrooks x = of(field);
                due("as high as hedge " + hedge, x.go(0, hedge, false), 1);
                x = of(field);
                due("above hedge " + hedge, x.go(0, hedge + 1, false), 2);
                x = of(field + "keg 2;");
                due("back as high as hedge " + hedge, x.go(hedge, 0, false), 2);
                x = of(field + "keg 2;");
                due("back above hedge " + hedge, x.go(hedge + 1, 0, false), 1);
                x = of(field);
                due("ahead of cell 1 there is none of " + hedge, x.go(1, 0, false), 0);
                x = of("cells 3;side 1 1 all 0;keg 2;hedge 2 " + hedge + ";");
                due("of the last one " + hedge + " does not count", x.go(0, 1, false), 21);
            }
            due("-1", new KegBrooks().hedge(2, -1), -1);
            due("10", new KegBrooks().hedge(2, 10), -1);
        });
    }

    private static void theKeg() {
        Edges.terms("THE KEG is in a CELL (the middle one at first, CELLS divided by 2, down)", () -> {
            due("of five", new KegBrooks().rule(1), 2);
            int[] middle = {1, 2, 2, 3, 3, 4, 4};
            for (int n = 3; n <= 9; n++) {
                due("of " + n, Edges.cells(n).rule(1), middle[n - 3]);
            }
        });
        Edges.terms("or OVER: 20 (SIDE 0 has it over its brook, ahead of CELL 0), 21 (SIDE 1, behind the last CELL)", () -> {
            for (int n = 3; n <= 9; n++) {
                KegBrooks x = of("cells " + n + ";side 0 1 all 0;side 1 1 all 0;rest 1;");
                x.put(1);
                due("cell 0 is not over", x.go(1, 0, false), 0);
                x.go(0, 0, false);
                due("ahead of cell 0", x.go(1, 0, false), 20);
                due("it is over", x.rule(1), 20);
                x.put(n - 2);
                x.men(0, 1);
                due("the last cell is not over", x.go(0, 1, false), n - 1);
                x.go(0, 0, false);
                due("behind the last of " + n, x.go(0, 1, false), 21);
                due("it is over then", x.rule(1), 21);
            }
        });
    }

    // ---- sides

    private static void sides() {
        Edges.terms("FRESH men (0 to 12; 0 at first)", () -> {
            for (int s = 0; s < 2; s++) {
                KegBrooks x = new KegBrooks();
                due("at first", x.side(s, 0), 0);
                due("12", x.men(s, 12), 0);
                due("0", x.men(s, 0), 12);
                due("-1", x.men(s, -1), -1);
                due("13", x.men(s, 13), -1);
                due("12 by a text", of("side " + s + " 12 all 0;").side(s, 0), 12);
                refusedText("side " + s + " 13 all 0;", 3, 7);
            }
        });
        Edges.terms("men that REST for 1 to 4 MINUTES still", () -> {
            KegBrooks x = of("cells 9;keg 0;side 1 4 all 0;rest 4;");
            for (int m = 0; m < 4; m++) {
                x.go(0, 1, false);
            }
            for (int left = 1; left <= 4; left++) {
                due("for " + left, x.side(1, left), 1);
            }
            due("nobody is fresh", x.side(1, 0), 0);
            x.go(0, 0, false);
            due("one is fresh", x.side(1, 0), 1);
            due("nobody rests for 4", x.side(1, 4), 0);
        });
        Edges.terms("FOOLS (0 to 5; 0: so many of those sent run to a false keg)", () -> {
            for (int s = 0; s < 2; s++) {
                KegBrooks x = new KegBrooks();
                due("at first", x.side(s, 5), 0);
                due("5", x.fool(s, 5), 0);
                due("0", x.fool(s, 0), 5);
                due("-1", x.fool(s, -1), -1);
                due("6", x.fool(s, 6), -1);
                due("5 by a text", of("fools " + s + " 5;").side(s, 5), 5);
                refusedText("fools " + s + " 6;", 3, 8);
            }
        });
        Edges.terms("a CAPTAIN: a KIND and a NUMBER (0 to 12; 0)", () -> {
            for (int s = 0; s < 2; s++) {
                KegBrooks x = new KegBrooks();
                due("kind at first", x.side(s, 6), 0);
                due("number at first", x.side(s, 7), 0);
                x.captain(s, 2, 12);
                due("12", x.side(s, 7), 12);
                due("13", x.captain(s, 2, 13), -1);
                due("-1", x.captain(s, 2, -1), -1);
                due("is 12 still", x.side(s, 7), 12);
                x.captain(s, 2, 0);
                due("0", x.side(s, 7), 0);
                due("12 by a text", of("side " + s + " 1 steady 12;").side(s, 7), 12);
                refusedText("side " + s + " 1 steady 13;", 3, 16);
            }
        });
    }

    private static void rules() {
        Edges.terms("REST (1 to 4; 2)", () -> {
            KegBrooks x = new KegBrooks();
            due("at first", x.rule(2), 2);
            due("4", x.rest(4), 2);
            due("1", x.rest(1), 4);
            due("0", x.rest(0), -1);
            due("5", x.rest(5), -1);
            due("is 1 still", x.rule(2), 1);
            refusedText("rest 0;", 3, 5);
            refusedText("rest 5;", 3, 5);
        });
        Edges.terms("BREAK (0 to 7; 0)", () -> {
            KegBrooks x = new KegBrooks();
            due("at first", x.rule(3), 0);
            due("7", x.breaks(7), 0);
            due("8", x.breaks(8), -1);
            due("-1", x.breaks(-1), -1);
            due("0", x.breaks(0), 7);
            refusedText("break 8;", 3, 6);
        });
        Edges.terms("MINUTE (0 at first)", () -> {
            KegBrooks x = new KegBrooks();
            due("at first", x.rule(4), 0);
            x.go(0, 0, false);
            due("one is 1", x.rule(4), 1);
        });
    }

    // ---- captains

    /** Of all numbers of fresh men of both, and of a captain's number. */
    private static void captains() {
        Edges.terms("0 all who are FRESH.", () -> eachNumber(0));
        Edges.terms("1 half: half of them, divided down.", () -> eachNumber(1));
        Edges.terms("2 steady: NUMBER, or all, if there are fewer.", () -> eachNumber(2));
        Edges.terms("4 follows: as many as the other SIDE has FRESH, or all, if there are fewer.", () -> eachNumber(4));
        Edges.terms("0 all who are FRESH.", () -> {
            for (int s = 0; s < 2; s++) {
                int sent = s == 0 ? 5 : 0;
                KegBrooks x = of("side 0 12 all 0;side 1 12 all 0;rest 4;");
                x.go(5, 5, false);
                int[] due = {7, 3, 7, 7, 7};
                for (int kind = 0; kind < 5; kind++) {
                    x.put(2);
                    x.captain(s, kind, 12);
                    due(KINDS[kind] + ": who rests is not sent", x.sends(s), due[kind]);
                }
                KegBrooks y = of("side 0 12 follows 0;side 1 12 follows 0;rest 4;");
                y.go(sent, 5 - sent, false);
                y.put(2);
                due("follows those who are fresh alone", y.sends(1 - s), 7);
            }
        });
    }

    private static void eachNumber(int kind) {
        for (int own = 0; own <= 12; own++) {
            for (int n = 0; n <= 12; n++) {
                KegBrooks x = new KegBrooks();
                // What a captain does not look at is another number each time.
                int other = kind == 4 ? n : (own + n) % 13;
                for (int s = 0; s < 2; s++) {
                    x.men(s, own);
                    x.men(1 - s, other);
                    x.captain(s, kind, kind == 4 ? 12 - n : n);
                    int due = kind == 0 ? own : kind == 1 ? (own - own % 2) / 2 : n < own ? n : own;
                    due(KINDS[kind] + " " + n + " of side " + s + " with " + own + " against " + other, x.sends(s), due);
                }
            }
        }
    }

    private static void late() {
        Edges.terms("3 late: all, if THE KEG is in one of the last NUMBER CELLS ahead of the other SIDE's brook, else none.",
            () -> {
            for (int cells = 3; cells <= 9; cells++) {
                KegBrooks x = of("cells " + cells + ";side 0 7 all 0;side 1 9 all 0;");
                for (int number = 0; number <= 12; number++) {
                    x.captain(0, 3, number);
                    x.captain(1, 3, number);
                    for (int keg : new int[] {0, number - 1, number, cells - number - 1, cells - number, cells - 1}) {
                        if (keg < 0 || keg >= cells) {
                            continue;
                        }
                        x.put(keg);
                        // To the brook of side 1 there are cells - keg cells, to that of side 0 keg + 1, its own one too.
                        String there = " by " + number + " in " + keg + " of " + cells;
                        due("side 0" + there, x.sends(0), cells - keg <= number ? 7 : 0);
                        due("side 1" + there, x.sends(1), keg + 1 <= number ? 9 : 0);
                    }
                }
            }
        });
    }

    // ---- a minute

    private static void push() {
        Edges.terms("PUSH of a SIDE: the lesser of those SENT and of ROOM of THE KEG's CELL, less its FOOLS (0 at least).",
            () -> {
            for (int room = 1; room <= 12; room++) {
                for (int fools = 0; fools <= 5; fools++) {
                    KegBrooks x = of("side 0 12 all 0;side 1 12 all 0;");
                    x.room(2, room);
                    for (int sent = 0; sent <= 12; sent++) {
                        int act = Math.min(sent, room);
                        int push = act < fools ? 0 : act - fools;
                        String there = sent + " sent, room " + room + ", fools " + fools;
                        x.fool(0, fools);
                        x.fool(1, 0);
                        due("side 0: " + there, x.net(sent, 0), 100 - push);
                        x.fool(0, 0);
                        x.fool(1, fools);
                        due("side 1: " + there, x.net(0, sent), 100 + push);
                    }
                }
            }
            KegBrooks x = of("side 0 12 all 0;room 1 1;room 3 1;");
            due("the keg's cell alone counts", x.net(12, 0), 88);
        });
        Edges.terms("A MINUTE, so many men being SENT by both SIDES (no more than are FRESH)", () -> {
            KegBrooks x = of("side 0 5 all 0;side 1 6 all 0;rest 4;");
            due("all", x.net(5, 6), 101);
            due("one more of side 0", x.net(6, 6), -1);
            due("one more of side 1", x.net(5, 7), -1);
            due("one below of side 0", x.net(-1, 0), -1);
            due("one below of side 1", x.net(0, -1), -1);
            due("all go", x.go(5, 5, false), 2);
            due("who rests is not sent", x.net(1, 0), -1);
            due("one of side 1 is left", x.net(0, 1), 101);
            due("two are not", x.net(0, 2), -1);
        });
    }

    private static void net() {
        Edges.terms("NET: PUSH of SIDE 1 less that of SIDE 0, and SLOPE less 3.", () -> {
            KegBrooks x = of("side 0 12 all 0;side 1 12 all 0;");
            x.slope(2, 6);
            due("the highest", x.net(0, 12), 115);
            due("both", x.net(12, 12), 103);
            x.slope(2, 0);
            due("the lowest", x.net(12, 0), 85);
            due("slope alone", x.net(0, 0), 97);
            x.slope(2, 3);
            due("none", x.net(0, 0), 100);
            due("one of side 0", x.net(1, 0), 99);
            due("one of side 1", x.net(0, 1), 101);
        });
    }

    private static void way() {
        Edges.terms("THE KEG goes to the CELL behind, if NET is above the HEDGE between (above 0 from the last CELL: OVER)",
            () -> {
            for (int hedge = 0; hedge <= 9; hedge++) {
                for (int sent = 0; sent <= 12; sent++) {
                    KegBrooks x = of("cells 4;keg 1;side 1 12 all 0;hedge 0 9;hedge 2 9;");
                    x.hedge(1, hedge);
                    due("net " + sent + ", hedge " + hedge, x.go(0, sent, false), sent > hedge ? 2 : 1);
                }
            }
            for (int sent = 0; sent <= 2; sent++) {
                KegBrooks x = of("cells 4;keg 3;side 1 12 all 0;hedge 2 9;hedge 3 9;");
                due("from the last, net " + sent, x.go(0, sent, false), sent > 0 ? 21 : 3);
            }
        });
        Edges.terms("to the one ahead, if NET is below 0 by more than the HEDGE between (below 0 from CELL 0: OVER), "
            + "else it stays.", () -> {
            for (int hedge = 0; hedge <= 9; hedge++) {
                for (int sent = 0; sent <= 12; sent++) {
                    KegBrooks x = of("cells 4;keg 2;side 0 12 all 0;hedge 0 9;hedge 2 9;");
                    x.hedge(1, hedge);
                    due("net -" + sent + ", hedge " + hedge, x.go(sent, 0, false), sent > hedge ? 1 : 2);
                }
            }
            for (int sent = 0; sent <= 2; sent++) {
                KegBrooks x = of("cells 4;keg 0;side 0 12 all 0;hedge 0 9;");
                due("from the first, net -" + sent, x.go(sent, 0, false), sent > 0 ? 20 : 0);
            }
        });
    }

    private static void breaksOut() {
        Edges.terms("If somebody BREAKS out in it and THE KEG has gone, it goes one CELL more the same way, "
            + "whatever HEDGE is there (or OVER).", () -> {
            for (int cells = 3; cells <= 9; cells++) {
                for (int keg = 0; keg < cells; keg++) {
                    KegBrooks x = of("cells " + cells + ";keg " + keg + ";side 0 12 all 0;side 1 12 all 0;rest 1;");
                    due("it stays in " + keg + " of " + cells, x.go(0, 0, true), keg);
                    hedgeAllBut(x, cells, keg);
                    int two = keg + 2 >= cells ? 21 : keg + 2;
                    due("two cells behind " + keg + " of " + cells, x.go(0, 1, true), two);
                    x.put(keg);
                    hedgeAllBut(x, cells, keg - 1);
                    two = keg - 2 < 0 ? 20 : keg - 2;
                    due("two cells ahead of " + keg + " of " + cells, x.go(1, 0, true), two);
                    x.put(keg);
                    due("stopped by a hedge behind", x.go(0, keg == cells - 1 ? 0 : 9, true), keg);
                }
            }
        });
    }

    private static void hedgeAllBut(KegBrooks x, int cells, int but) {
        for (int i = 0; i < cells; i++) {
            x.hedge(i, i == but ? 0 : 9);
        }
    }

    private static void rests() {
        Edges.terms("Who RESTED for 1 MINUTE still is FRESH then, others for 1 less; who was SENT RESTS for REST MINUTES.",
            () -> {
            for (int s = 0; s < 2; s++) {
                for (int rest = 1; rest <= 4; rest++) {
                    KegBrooks x = of("cells 9;rest " + rest + ";");
                    x.men(s, 12);
                    x.go(s == 0 ? 3 : 0, s == 0 ? 0 : 3, false);
                    for (int left = rest; left >= 1; left--) {
                        due("fresh", x.side(s, 0), 9);
                        for (int still = 1; still <= 4; still++) {
                            due("rest " + rest + ", of " + still + " at " + left, x.side(s, still), still == left ? 3 : 0);
                        }
                        x.go(0, 0, false);
                    }
                    due("fresh behind " + rest, x.side(s, 0), 12);
                    due("nobody rests for 1", x.side(s, 1), 0);
                }
                KegBrooks y = of("cells 9;rest 2;");
                y.men(s, 12);
                // Who comes back is fresh behind the minute, not in it.
                y.go(s == 0 ? 12 : 0, s == 0 ? 0 : 12, false);
                due("none can be sent in the next", y.go(s == 0 ? 1 : 0, s == 0 ? 0 : 1, false), -1);
                y.go(0, 0, false);
                due("nor in the one behind", y.go(s == 0 ? 1 : 0, s == 0 ? 0 : 1, false), -1);
                y.go(0, 0, false);
                due("all are fresh", y.side(s, 0), 12);
            }
        });
        Edges.terms("MINUTE is 1 more.", () -> {
            KegBrooks x = new KegBrooks();
            for (int m = 1; m <= 20; m++) {
                x.go(0, 0, m % 2 == 0);
                due("minutes", x.rule(4), m);
            }
        });
    }

    private static void overAndMinutes() {
        Edges.terms("When it is OVER, no MINUTE goes.", () -> {
            for (int place = 20; place <= 21; place++) {
                Edges.Setup over = place == 20 ? Edges::overAhead : Edges::overBehind;
                due("the keg", over.make().rule(1), place);
                Edges.refused("go in " + place, over, x -> x.go(0, 0, false), -2);
                Edges.refused("go, somebody breaking out, in " + place, over, x -> x.go(0, 0, true), -2);
                due("ahead in " + place, over.make().ahead(60), place);
                due("play in " + place, over.make().play(7, 60, 1), 0);
            }
        });
    }

    private static void byCaptains() {
        Edges.terms("BY CAPTAINS: MINUTES in which both SEND by their CAPTAINS. When it is OVER, it stays so. "
            + "Without BREAKS, if not told otherwise", () -> {
            // A man of side 1 is sent each minute.
            String field = "cells 5;keg 2;side 0 3 late 1;side 1 6 steady 1;rest 1;break 7;";
            // In the last cell side 0 sends all its three, who rest then.
            int[] back = {2, 3, 4, 3, 4, 3, 4};
            KegBrooks x = of(field);
            for (int n = 0; n < back.length; n++) {
                due("behind " + n, x.ahead(n), back[n]);
            }
            for (int a = 0; a < 5; a++) {
                for (int b = 0; b < 5; b++) {
                    asByGo(a, b);
                }
            }
            KegBrooks y = of("cells 5;keg 2;side 1 6 steady 1;rest 1;break 7;");
            int[] over = {2, 3, 4, 21, 21, 21};
            for (int n = 0; n < over.length; n++) {
                due("behind " + n + ", nobody against it", y.ahead(n), over[n]);
            }
            due("over stays so", y.ahead(60), 21);
            due("not told otherwise: over", y.over(), 3);
            due("not told otherwise: lies", y.tell(1, 3) + y.lies(), 1);
        });
    }

    /** What is ahead is what go() does with all that both would send, for each two kinds, more men on either side. */
    private static void asByGo(int a, int b) {
        for (int more = 0; more < 2; more++) {
            String field = "cells 7;rest 3;hedge 2 1;slope 4 2;side " + more + " 9 all 0;side " + (1 - more) + " 4 all 0;";
            KegBrooks x = of(field);
            x.captain(0, a, 4);
            x.captain(1, b, 3);
            KegBrooks y = of(field);
            y.captain(0, a, 4);
            y.captain(1, b, 3);
            for (int n = 1; n <= 12; n++) {
                int keg = y.rule(1) >= 20 ? y.rule(1) : y.go(y.sends(0), y.sends(1), false);
                due("captains " + KINDS[a] + ", " + KINDS[b] + " behind " + n, x.ahead(n), keg);
            }
        }
    }
}

import java.util.Random;

/** Runs of chance calls (by fixed seeds), each answer held against the model's. */
public final class ModelTest {
    private static final int[] ODD = {-1, Integer.MIN_VALUE, Integer.MAX_VALUE, Integer.MAX_VALUE - 1, 13, 22, 41, 100, -14};
    private static final int RUNS = 6000;
    // An object is used for at most 512 calls: the last text and two looks at all have room behind these.
    private static final int CALLS = 512 - 44 - 2 * 56;

    private final Random chance;
    private final KegBrooks keg = new KegBrooks();
    private final Model model = new Model();
    private final StringBuilder calls = new StringBuilder();
    private int passed = 0;
    private int failed = 0;

    private ModelTest(long seed) {
        chance = new Random(seed);
    }

    public static void main(String[] args) {
        int runs = args.length > 0 ? Integer.parseInt(args[0]) : RUNS;
        long from = args.length > 1 ? Long.parseLong(args[1]) : 1;
        long passed = 0;
        long failed = 0;
        for (long seed = from; seed < from + runs; seed++) {
            ModelTest run = new ModelTest(seed);
            run.run();
            passed += run.passed;
            failed += run.failed;
            if (run.failed > 0) {
                System.out.println("seed " + seed + ":\n" + run.calls);
                if (failed > 5) {
                    break;
                }
            }
        }
        System.out.println("ModelTest: " + passed + " passed, " + failed + " failed");
        if (failed > 0) {
            System.exit(1);
        }
    }

    private int upTo(int most) {
        return chance.nextInt(most + 1);
    }

    /** Mostly a number of the bounds, sometimes just beside them, seldom any. */
    private int near(int least, int most) {
        int die = chance.nextInt(24);
        if (die == 0) {
            return least - 1;
        }
        if (die == 1) {
            return most + 1;
        }
        if (die == 2) {
            return ODD[chance.nextInt(ODD.length)];
        }
        return least + chance.nextInt(most - least + 1);
    }

    private int aCell() {
        return near(0, model.now.cells - 1);
    }

    private int aPlace() {
        int die = chance.nextInt(6);
        return die < 2 ? 20 + die : aCell();
    }

    private int sent(int s) {
        return chance.nextInt(12) == 0 ? near(0, 12) : upTo(model.now.fresh(s));
    }

    private boolean due(String call, long got, long want) {
        calls.append(call).append(" = ").append(got).append('\n');
        if (got == want) {
            passed++;
            return true;
        }
        failed++;
        calls.append("  the model answers ").append(want).append('\n');
        return false;
    }

    private void run() {
        while (passed < CALLS && failed == 0) {
            call(chance.nextInt(46));
            if (chance.nextInt(40) == 0) {
                lookAtAll();
            }
        }
        lookAtAll();
    }

    private void lookAtAll() {
        for (int what = 0; what < 5 && failed == 0; what++) {
            due("rule(" + what + ")", keg.rule(what), model.rule(what));
        }
        for (int what = 0; what < 8 && failed == 0; what++) {
            due("side(0, " + what + ")", keg.side(0, what), model.side(0, what));
            due("side(1, " + what + ")", keg.side(1, what), model.side(1, what));
        }
        for (int i = 0; i < 9 && failed == 0; i++) {
            for (int what = 0; what < 3; what++) {
                due("cell(" + i + ", " + what + ")", keg.cell(i, what), model.cell(i, what));
            }
        }
        for (int what = 0; what < 6 && failed == 0; what++) {
            due("count(" + what + ")", keg.count(what), model.count(what));
        }
        due("torn()", keg.torn(), model.torn());
        due("fault()", keg.fault(), model.fault());
    }

    private void call(int which) {
        int s = near(0, 1);
        int i = aCell();
        switch (which) {
            case 0: tellText(); break;
            case 1: feedAnything(); break;
            case 2: {
                int n = near(0, (int) model.count(2));
                due("end(" + n + ")", keg.end(n), model.end(n));
                break;
            }
            case 3: {
                int what = near(0, 4);
                due("rule(" + what + ")", keg.rule(what), model.rule(what));
                break;
            }
            case 4: {
                int what = near(0, 2);
                due("cell(" + i + ", " + what + ")", keg.cell(i, what), model.cell(i, what));
                break;
            }
            case 5: {
                int what = near(0, 7);
                due("side(" + s + ", " + what + ")", keg.side(s, what), model.side(s, what));
                break;
            }
            case 6: {
                int v = near(1, 12);
                due("room(" + i + ", " + v + ")", keg.room(i, v), model.ground(0, i, v));
                break;
            }
            case 7: {
                int v = near(0, 6);
                due("slope(" + i + ", " + v + ")", keg.slope(i, v), model.ground(1, i, v));
                break;
            }
            case 8: {
                int v = near(0, chance.nextInt(3) == 0 ? 9 : 3);
                due("hedge(" + i + ", " + v + ")", keg.hedge(i, v), model.ground(2, i, v));
                break;
            }
            case 9: {
                int v = near(0, 5);
                due("fool(" + s + ", " + v + ")", keg.fool(s, v), model.fool(s, v));
                break;
            }
            case 10: case 11: {
                int v = near(0, 12);
                due("men(" + s + ", " + v + ")", keg.men(s, v), model.men(s, v));
                break;
            }
            case 12: case 13: {
                int kind = near(0, 4);
                int v = near(0, 12);
                due("captain(" + s + ", " + kind + ", " + v + ")", keg.captain(s, kind, v), model.captain(s, kind, v));
                break;
            }
            case 14: {
                int v = near(1, 4);
                due("rest(" + v + ")", keg.rest(v), model.rest(v));
                break;
            }
            case 15: {
                int v = near(0, 7);
                due("breaks(" + v + ")", keg.breaks(v), model.breaks(v));
                break;
            }
            case 16: case 17: case 18:
                due("put(" + i + ")", keg.put(i), model.put(i));
                break;
            case 19:
                due("sends(" + s + ")", keg.sends(s), model.sends(s));
                break;
            default: callMore(which, s, i); break;
        }
    }

    private void callMore(int which, int s, int i) {
        switch (which) {
            case 20: {
                int x = sent(0);
                int y = sent(1);
                due("net(" + x + ", " + y + ")", keg.net(x, y), model.net(x, y));
                break;
            }
            case 21: case 22: case 23: case 24: {
                int x = sent(0);
                int y = sent(1);
                boolean out = chance.nextBoolean();
                due("go(" + x + ", " + y + ", " + out + ")", keg.go(x, y, out), model.go(x, y, out));
                break;
            }
            case 25: {
                int n = near(0, 60);
                due("ahead(" + n + ")", keg.ahead(n), model.ahead(n));
                break;
            }
            case 26:
                due("over()", keg.over(), model.over());
                break;
            case 27: {
                int n = near(0, 8);
                int p = aPlace();
                int what = near(0, 1);
                due("odds(" + n + ", " + p + ", " + what + ")", keg.odds(n, p, what), model.odds(n, p, what));
                break;
            }
            case 28: {
                int n = near(0, 8);
                int what = near(0, 1);
                due("mean(" + n + ", " + what + ")", keg.mean(n, what), model.mean(n, what));
                break;
            }
            case 29: {
                // Four minutes are dear for the model, which looks at all of them.
                int n = near(1, chance.nextInt(6) == 0 && model.now.fresh(0) < 8 && model.now.fresh(1) < 8 ? 4 : 2);
                int what = chance.nextInt(3) == 0 ? 0 : near(10, 13);
                due("reply(" + s + ", " + n + ", " + what + ")", keg.reply(s, n, what), model.reply(s, n, what));
                break;
            }
            case 30: case 31: {
                int n = near(1, 20);
                due("hold(" + s + ", " + i + ", " + n + ")", keg.hold(s, i, n), model.hold(s, i, n));
                break;
            }
            case 32: {
                int a = near(0, 4);
                int b = near(0, 4);
                int n = near(0, 60);
                due("table(" + a + ", " + b + ", " + n + ")", keg.table(a, b, n), model.table(a, b, n));
                break;
            }
            case 33: {
                int n = near(0, 60);
                due("without(" + i + ", " + n + ")", keg.without(i, n), model.without(i, n));
                break;
            }
            case 34: {
                int n = near(0, 12);
                // Half of what is told is so.
                int p = chance.nextBoolean() ? aPlace() : (int) model.ahead(n);
                due("tell(" + n + ", " + p + ")", keg.tell(n, p), model.tell(n, p));
                break;
            }
            case 35: {
                int n = near(0, (int) model.count(0));
                due("forget(" + n + ")", keg.forget(n), model.forget(n));
                break;
            }
            case 36:
                due("lies()", keg.lies(), model.lies());
                break;
            case 37:
                due("where()", keg.where(), model.where());
                break;
            case 38: {
                int seed = chance.nextInt();
                int n = near(1, 60);
                int what = near(0, 1);
                due("play(" + seed + ", " + n + ", " + what + ")", keg.play(seed, n, what), model.play(seed, n, what));
                break;
            }
            case 39: {
                int k = near(0, 1);
                due("keep(" + k + ")", keg.keep(k), model.keep(k));
                break;
            }
            case 40: {
                int k = near(0, 1);
                due("back(" + k + ")", keg.back(k), model.back(k));
                break;
            }
            case 41: {
                int k = near(0, 3);
                int lane = near(0, 2);
                int n = near(0, 40);
                due("sheet(" + k + ", " + lane + ", " + n + ")", keg.sheet(k, lane, n), model.sheet(k, lane, n));
                break;
            }
            case 42: {
                int k = near(0, 3);
                int at = near(0, 12);
                int v = chance.nextInt(8) == 0 ? chance.nextInt() : near(0, 3);
                due("lay(" + k + ", " + at + ", " + v + ")", keg.lay(k, at, v), model.lay(k, at, v));
                break;
            }
            case 43: case 44: {
                int k = near(0, 3);
                int lane = near(0, 2);
                int f = near(0, 40);
                int n = near(0, 20);
                due("read(" + k + ", " + lane + ", " + f + ", " + n + ")", keg.read(k, lane, f, n), model.read(k, lane, f, n));
                break;
            }
            default: {
                int what = near(0, 5);
                due("count(" + what + ")", keg.count(what), model.count(what));
                due("torn()", keg.torn(), model.torn());
                break;
            }
        }
    }

    private void feedAnything() {
        long v = chance.nextInt(3) == 0 ? 0x2020202020202020L : chance.nextLong();
        due("feed(" + v + "L)", keg.feed(v), model.feed(v));
    }

    private void tellText() {
        if (chance.nextBoolean()) {
            due("end(0)", keg.end(0), model.end(0));
        }
        String text = spoiled(someText());
        for (int at = 0; at < text.length(); at += 8) {
            long v = 0;
            for (int k = at; k < at + 8; k++) {
                v = v << 8 | (k < text.length() ? text.charAt(k) : ' ');
            }
            due("feed(" + v + "L)", keg.feed(v), model.feed(v));
        }
        calls.append("-- ").append(text).append('\n');
        due("text()", keg.text(), model.text());
        due("fault()", keg.fault(), model.fault());
    }

    private String blanks(int least) {
        return " ".repeat(least + (chance.nextInt(8) == 0 ? chance.nextInt(3) : 0));
    }

    private int seldomWrong(int least, int most) {
        return chance.nextInt(80) == 0 ? (chance.nextBoolean() || least == 0 ? most + 1 : least - 1) : least + upTo(most - least);
    }

    private String someText() {
        String[] kinds = {"all", "half", "steady", "late", "follows"};
        int cells = 3 + upTo(6);
        java.util.Set<String> heads = new java.util.LinkedHashSet<>();
        int lines = upTo(14);
        StringBuilder text = new StringBuilder(blanks(0));
        for (int n = 0; n < lines; n++) {
            String head;
            String tail;
            int i = upTo(chance.nextInt(30) == 0 ? 8 : cells - 1);
            int s = chance.nextInt(40) == 0 ? 2 : upTo(1);
            switch (n == 0 ? 0 : chance.nextInt(11)) {
                case 0: head = "cells"; tail = " " + (chance.nextInt(30) == 0 ? 2 : cells); break;
                case 1: head = "room " + i; tail = " " + seldomWrong(1, 12); break;
                case 2: head = "slope " + i; tail = " " + seldomWrong(0, 6); break;
                case 3: head = "hedge " + i; tail = " " + seldomWrong(0, 9); break;
                case 4: head = "keg"; tail = " " + i; break;
                case 5: case 6: case 7:
                    head = "side " + s;
                    tail = " " + seldomWrong(0, 12) + blanks(0) + kinds[upTo(4)] + blanks(0) + seldomWrong(0, 12);
                    break;
                case 8: head = "fools " + s; tail = " " + seldomWrong(0, 5); break;
                case 9: head = "rest"; tail = " " + seldomWrong(1, 4); break;
                default: head = "break"; tail = " " + seldomWrong(0, 7); break;
            }
            if (heads.add(head) || chance.nextInt(20) == 0) {
                text.append(head).append(tail).append(blanks(0)).append(';').append(blanks(0));
            }
        }
        return text.toString();
    }

    private String spoiled(String text) {
        if (text.isEmpty() || chance.nextInt(3) > 0) {
            return text;
        }
        int at = chance.nextInt(text.length());
        String any = "; 0129azk!\n\u00e9";
        char one = any.charAt(chance.nextInt(any.length()));
        switch (chance.nextInt(3)) {
            case 0: return text.substring(0, at);
            case 1: return text.substring(0, at) + one + text.substring(at);
            default: return text.substring(0, at) + one + text.substring(at + 1);
        }
    }
}

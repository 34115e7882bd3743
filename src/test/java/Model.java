import java.math.BigInteger;
import java.util.ArrayList;
import java.util.Arrays;
import java.util.HashMap;
import java.util.List;
import java.util.Map;
import java.util.TreeMap;

/** The document once more, written slowly and in another way, to be held against KegBrooks. */
final class Model {
    /** The keg's place is its distance from the brook of side 0: 0 is OVER there, cells + 1 is OVER at the other. */
    static final class State implements Cloneable {
        int cells = 5;
        int place = 3;
        int rest = 2;
        int breaks = 0;
        int minute = 0;
        int[][] ground = new int[9][];
        // Each man by the minutes that he rests still, 0 is fresh.
        List<List<Integer>> men = new ArrayList<>(List.of(new ArrayList<>(), new ArrayList<>()));
        int[] fools = new int[2];
        int[] kind = new int[2];
        int[] number = new int[2];

        State() {
            for (int i = 0; i < 9; i++) {
                ground[i] = new int[] {12, 3, 0};
            }
        }

        State twin() {
            State t = new State();
            t.cells = cells;
            t.place = place;
            t.rest = rest;
            t.breaks = breaks;
            t.minute = minute;
            for (int i = 0; i < 9; i++) {
                t.ground[i] = ground[i].clone();
            }
            t.men = new ArrayList<>(List.of(new ArrayList<>(men.get(0)), new ArrayList<>(men.get(1))));
            t.fools = fools.clone();
            t.kind = kind.clone();
            t.number = number.clone();
            return t;
        }

        int resting(int s, int left) {
            int n = 0;
            for (int m : men.get(s)) {
                n += m == left ? 1 : 0;
            }
            return n;
        }

        int fresh(int s) {
            return resting(s, 0);
        }

        boolean over() {
            return place < 1 || place > cells;
        }

        int told() {
            return told(place);
        }

        int told(int at) {
            return at < 1 ? 20 : at > cells ? 21 : at - 1;
        }

        int send(int s) {
            int f = fresh(s);
            int v = number[s];
            int fromOtherBrook = s == 0 ? cells + 1 - place : place;
            int wish = new int[] {12, f / 2, v, fromOtherBrook <= v ? 12 : 0, fresh(1 - s)}[kind[s]];
            return Math.min(wish, f);
        }

        int net(int x, int y) {
            int[] here = ground[place - 1];
            int[] push = new int[2];
            for (int s = 0; s < 2; s++) {
                push[s] = Math.max(Math.min(s == 0 ? x : y, here[0]) - fools[s], 0);
            }
            return push[1] - push[0] + here[1] - 3;
        }

        void minute(int x, int y, boolean out) {
            if (over()) {
                return;
            }
            int net = net(x, y);
            int behind = place == cells ? 0 : ground[place - 1][2];
            int ahead = place == 1 ? 0 : ground[place - 2][2];
            int way = net > behind ? 1 : net < -ahead ? -1 : 0;
            place = Math.max(0, Math.min(cells + 1, place + way * (out ? 2 : 1)));
            for (int s = 0; s < 2; s++) {
                int sent = s == 0 ? x : y;
                List<Integer> then = new ArrayList<>();
                for (int m : men.get(s)) {
                    if (m == 0 && sent > 0) {
                        then.add(rest);
                        sent--;
                    } else {
                        then.add(Math.max(0, m - 1));
                    }
                }
                men.set(s, then);
            }
            minute++;
        }

        State captains(int n) {
            State t = twin();
            for (int m = 0; m < n && !t.over(); m++) {
                t.minute(t.send(0), t.send(1), false);
            }
            return t;
        }

        String key() {
            List<Integer> a = new ArrayList<>(men.get(0));
            List<Integer> b = new ArrayList<>(men.get(1));
            a.sort(null);
            b.sort(null);
            return place + "/" + a + "/" + b;
        }
    }

    private static final long BAD = -1;
    private static final long STATE = -2;
    private static final long FULL = -3;
    private static final long NONE = -4;

    State now = new State();
    private String tape = "";
    private int fault = 0;
    private List<int[]> told = new ArrayList<>();
    private State[] images = new State[2];
    private final Object[] sheets = new Object[4];
    private int torn = 0;

    static boolean in(long v, long a, long b) {
        return a <= v && v <= b;
    }

    private boolean cellThere(int i) {
        return in(i, 0, now.cells - 1);
    }

    private boolean placeThere(int i) {
        return cellThere(i) || i == 20 || i == 21;
    }

    long feed(long v) {
        if (tape.length() + 8 > 320) {
            return FULL;
        }
        byte[] eight = BigInteger.valueOf(v).toByteArray();
        StringBuilder b = new StringBuilder();
        for (int i = 0; i < 8 - eight.length; i++) {
            b.append((char) (v < 0 ? 255 : 0));
        }
        for (byte e : eight) {
            b.append((char) (e & 255));
        }
        tape += b;
        return tape.length();
    }

    long end(int n) {
        if (!in(n, 0, tape.length())) {
            return BAD;
        }
        int was = tape.length();
        tape = tape.substring(0, n);
        return was;
    }

    /** Thrown by the model's reader alone. */
    private static final class Fault extends RuntimeException {
        final int kind;
        final int at;

        Fault(int kind, int at) {
            this.kind = kind;
            this.at = at;
        }
    }

    private int at;
    private String token;
    private int tokenAt;

    private void token() {
        while (at < tape.length() && tape.charAt(at) == ' ') {
            at++;
        }
        tokenAt = at;
        String rest = tape.substring(at);
        token = "";
        if (rest.isEmpty()) {
            return;
        }
        java.util.regex.Matcher m = java.util.regex.Pattern.compile("^([a-z]+|[0-9]+|;)").matcher(rest);
        if (!m.find() || m.group().matches("[0-9]{3,}")) {
            throw new Fault(1, tokenAt);
        }
        token = m.group();
        at += token.length();
    }

    private int number(int a, int b) {
        token();
        if (!token.matches("[0-9]+")) {
            throw new Fault(2, tokenAt);
        }
        int v = Integer.parseInt(token);
        if (!in(v, a, b)) {
            throw new Fault(3, tokenAt);
        }
        return v;
    }

    private void once(Map<String, Boolean> seen, String what) {
        if (seen.put(what, true) != null) {
            throw new Fault(4, tokenAt);
        }
    }

    long text() {
        try {
            at = 0;
            State t = new State();
            int keg = -1;
            int far = 0;
            int lines = 0;
            Map<String, Boolean> seen = new HashMap<>();
            for (token(); !token.isEmpty(); token()) {
                String name = token;
                if (name.equals("cells")) {
                    once(seen, name);
                    t.cells = number(3, 9);
                } else if (Arrays.asList("room", "slope", "hedge").contains(name)) {
                    int what = Arrays.asList("room", "slope", "hedge").indexOf(name);
                    int i = number(0, 8);
                    once(seen, name + i);
                    far = Math.max(far, i);
                    t.ground[i][what] = number(what == 0 ? 1 : 0, new int[] {12, 6, 9}[what]);
                } else if (name.equals("keg")) {
                    once(seen, name);
                    keg = number(0, 8);
                    far = Math.max(far, keg);
                } else if (name.equals("side")) {
                    int s = number(0, 1);
                    once(seen, name + s);
                    int men = number(0, 12);
                    token();
                    int kind = Arrays.asList("all", "half", "steady", "late", "follows").indexOf(token);
                    if (kind < 0) {
                        throw new Fault(2, tokenAt);
                    }
                    t.kind[s] = kind;
                    t.number[s] = number(0, 12);
                    for (int m = 0; m < men; m++) {
                        t.men.get(s).add(0);
                    }
                } else if (name.equals("fools")) {
                    int s = number(0, 1);
                    once(seen, name + s);
                    t.fools[s] = number(0, 5);
                } else if (name.equals("rest")) {
                    once(seen, name);
                    t.rest = number(1, 4);
                } else if (name.equals("break")) {
                    once(seen, name);
                    t.breaks = number(0, 7);
                } else {
                    throw new Fault(2, tokenAt);
                }
                token();
                if (!token.equals(";")) {
                    throw new Fault(2, tokenAt);
                }
                lines++;
            }
            if (far >= t.cells) {
                throw new Fault(5, tape.length());
            }
            t.place = 1 + (keg < 0 ? t.cells / 2 : keg);
            now = t;
            told.clear();
            images = new State[2];
            fault = 0;
            tape = "";
            return lines;
        } catch (Fault f) {
            fault = f.kind;
            tape = "";
            return -10 - f.at;
        }
    }

    long fault() {
        return fault;
    }

    long rule(int what) {
        return in(what, 0, 4) ? new int[] {now.cells, now.told(), now.rest, now.breaks, now.minute}[what] : BAD;
    }

    long cell(int i, int what) {
        return cellThere(i) && in(what, 0, 2) ? now.ground[i][what] : BAD;
    }

    long side(int s, int what) {
        if (!in(s, 0, 1) || !in(what, 0, 7)) {
            return BAD;
        }
        return what < 5 ? now.resting(s, what) : new int[] {now.fools[s], now.kind[s], now.number[s]}[what - 5];
    }

    long ground(int what, int i, int v) {
        if (!cellThere(i) || !in(v, what == 0 ? 1 : 0, new int[] {12, 6, 9}[what])) {
            return BAD;
        }
        int was = now.ground[i][what];
        now.ground[i][what] = v;
        return was;
    }

    long fool(int s, int v) {
        if (!in(s, 0, 1) || !in(v, 0, 5)) {
            return BAD;
        }
        int was = now.fools[s];
        now.fools[s] = v;
        return was;
    }

    long men(int s, int v) {
        if (!in(s, 0, 1) || !in(v, 0, 12)) {
            return BAD;
        }
        int was = now.fresh(s);
        if (now.men.get(s).size() - was + v > 12) {
            return BAD;
        }
        now.men.get(s).removeIf(m -> m == 0);
        for (int m = 0; m < v; m++) {
            now.men.get(s).add(0);
        }
        return was;
    }

    long captain(int s, int kind, int v) {
        if (!in(s, 0, 1) || !in(kind, 0, 4) || !in(v, 0, 12)) {
            return BAD;
        }
        int was = now.kind[s];
        now.kind[s] = kind;
        now.number[s] = v;
        return was;
    }

    long rest(int v) {
        if (!in(v, 1, 4)) {
            return BAD;
        }
        int was = now.rest;
        now.rest = v;
        return was;
    }

    long breaks(int v) {
        if (!in(v, 0, 7)) {
            return BAD;
        }
        int was = now.breaks;
        now.breaks = v;
        return was;
    }

    long put(int i) {
        if (!cellThere(i)) {
            return BAD;
        }
        int was = now.told();
        now.place = i + 1;
        return was;
    }

    long sends(int s) {
        return !in(s, 0, 1) ? BAD : now.over() ? STATE : now.send(s);
    }

    long net(int x, int y) {
        if (!in(x, 0, now.fresh(0)) || !in(y, 0, now.fresh(1))) {
            return BAD;
        }
        return now.over() ? STATE : 100 + now.net(x, y);
    }

    long go(int x, int y, boolean out) {
        long net = net(x, y);
        if (net < 0) {
            return net;
        }
        if (now.minute + 1 >= 1000) {
            return FULL;
        }
        now.minute(x, y, out);
        return now.told();
    }

    long ahead(int n) {
        return in(n, 0, 60) ? now.captains(n).told() : BAD;
    }

    long over() {
        for (int n = 0; n <= 60; n++) {
            if (now.captains(n).over()) {
                return n;
            }
        }
        return NONE;
    }

    /** By place, how many of 8 to the power of n. */
    private TreeMap<Integer, BigInteger> spread(int n) {
        Map<String, State> states = new HashMap<>(Map.of(now.key(), now.twin()));
        Map<String, BigInteger> weights = new HashMap<>(Map.of(now.key(), BigInteger.ONE));
        for (int m = 0; m < n; m++) {
            Map<String, State> then = new HashMap<>();
            Map<String, BigInteger> by = new HashMap<>();
            for (String k : states.keySet()) {
                for (int o = 0; o < 8; o++) {
                    State t = states.get(k).twin();
                    if (!t.over()) {
                        t.minute(t.send(0), t.send(1), o < now.breaks);
                    }
                    then.put(t.key(), t);
                    by.merge(t.key(), weights.get(k), BigInteger::add);
                }
            }
            states = then;
            weights = by;
        }
        TreeMap<Integer, BigInteger> places = new TreeMap<>();
        for (String k : states.keySet()) {
            places.merge(states.get(k).place, weights.get(k), BigInteger::add);
        }
        return places;
    }

    private static long lowest(BigInteger a, int n, int what) {
        BigInteger b = BigInteger.valueOf(8).pow(n);
        BigInteger d = a.gcd(b);
        return (what == 0 ? a : b).divide(d).longValueExact();
    }

    long odds(int n, int i, int what) {
        if (!in(n, 0, 8) || !placeThere(i) || !in(what, 0, 1)) {
            return BAD;
        }
        int place = i == 20 ? 0 : i == 21 ? now.cells + 1 : i + 1;
        return lowest(spread(n).getOrDefault(place, BigInteger.ZERO), n, what);
    }

    long mean(int n, int what) {
        if (!in(n, 0, 8) || !in(what, 0, 1)) {
            return BAD;
        }
        BigInteger sum = BigInteger.ZERO;
        for (Map.Entry<Integer, BigInteger> e : spread(n).entrySet()) {
            sum = sum.add(e.getValue().multiply(BigInteger.valueOf(e.getKey())));
        }
        return lowest(sum, n, what);
    }

    private int bestDistance;
    private int[] bestSent;
    private int bestTold;

    private void replies(State here, int s, int n, int k, int[] sent) {
        if (k == n) {
            int distance = s == 0 ? here.place : here.cells + 1 - here.place;
            if (bestSent == null || distance < bestDistance) {
                bestDistance = distance;
                bestSent = sent.clone();
                bestTold = here.told();
            }
            return;
        }
        if (here.over()) {
            sent[k] = 0;
            replies(here, s, n, k + 1, sent);
            return;
        }
        for (int x = 0; x <= here.fresh(s); x++) {
            sent[k] = x;
            State t = here.twin();
            int other = here.send(1 - s);
            t.minute(s == 0 ? x : other, s == 0 ? other : x, false);
            replies(t, s, n, k + 1, sent);
        }
    }

    long reply(int s, int n, int what) {
        if (!in(s, 0, 1) || !in(n, 1, 4) || !(what == 0 || in(what - 10L, 0, n - 1))) {
            return BAD;
        }
        if (now.over()) {
            return STATE;
        }
        bestSent = null;
        replies(now, s, n, 0, new int[n]);
        return what == 0 ? bestTold : bestSent[what - 10];
    }

    long hold(int s, int i, int n) {
        if (!in(s, 0, 1) || !cellThere(i) || !in(n, 1, 20)) {
            return BAD;
        }
        if (now.over()) {
            return STATE;
        }
        for (int v = 0; v <= 12; v++) {
            State t = now.twin();
            t.kind[s] = 2;
            t.number[s] = v;
            boolean kept = true;
            for (int m = 1; m <= n; m++) {
                int p = t.captains(m).place - 1;
                kept &= s == 0 ? p <= i : p >= i;
            }
            if (kept) {
                return v;
            }
        }
        return NONE;
    }

    long table(int a, int b, int n) {
        if (!in(a, 0, 4) || !in(b, 0, 4) || !in(n, 0, 60)) {
            return BAD;
        }
        State t = now.twin();
        t.kind = new int[] {a, b};
        return t.captains(n).told();
    }

    long without(int i, int n) {
        if (!cellThere(i) || !in(n, 0, 60)) {
            return BAD;
        }
        State t = now.twin();
        t.ground[i][2] = 0;
        return t.captains(n).told();
    }

    long tell(int n, int i) {
        if (!in(n, 0, 12) || !placeThere(i)) {
            return BAD;
        }
        if (told.size() == 8) {
            return FULL;
        }
        told.add(new int[] {n, i});
        return told.size();
    }

    long forget(int n) {
        if (!in(n, 0, told.size())) {
            return BAD;
        }
        int was = told.size();
        told = new ArrayList<>(told.subList(0, n));
        return was;
    }

    private long lies(State s) {
        long bits = 0;
        for (int k = 0; k < told.size(); k++) {
            bits += s.captains(told.get(k)[0]).told() != told.get(k)[1] ? 1L << k : 0;
        }
        return bits;
    }

    long lies() {
        return lies(now);
    }

    long where() {
        long bits = 0;
        for (int i = 0; i < now.cells; i++) {
            State t = now.twin();
            t.place = i + 1;
            bits += lies(t) == 0 ? 1L << i : 0;
        }
        return bits;
    }

    long play(int seed, int n, int what) {
        if (!in(n, 1, 60) || !in(what, 0, 1)) {
            return BAD;
        }
        State t = now.twin();
        BigInteger modulo = BigInteger.ONE.shiftLeft(32);
        BigInteger s = BigInteger.valueOf(seed).mod(modulo);
        int went = 0;
        while (went < n && !t.over()) {
            s = s.multiply(BigInteger.valueOf(1103515245)).add(BigInteger.valueOf(12345)).mod(modulo);
            int bits = s.shiftRight(16).mod(BigInteger.ONE.shiftLeft(15)).intValue();
            t.minute(t.send(0), t.send(1), bits % 8 < t.breaks);
            went++;
        }
        return what == 0 ? t.told() : went;
    }

    long keep(int k) {
        if (!in(k, 0, 1)) {
            return BAD;
        }
        int was = images[k] == null ? 0 : 1;
        images[k] = now.twin();
        return was;
    }

    long back(int k) {
        if (!in(k, 0, 1)) {
            return BAD;
        }
        if (images[k] == null) {
            return STATE;
        }
        now = images[k].twin();
        return now.minute;
    }

    long sheet(int k, int lane, int n) {
        if (!in(k, 0, 3) || !in(lane, 0, 2) || n > 40) {
            return BAD;
        }
        try {
            sheets[k] = lane == 0 ? new byte[n] : lane == 1 ? new short[n] : (Object) new int[n];
            return 1;
        } catch (NegativeArraySizeException e) {
            return -14;
        }
    }

    // The machine itself finds the faults of the model's sheets.
    long lay(int k, int i, int v) {
        if (!in(k, 0, 3)) {
            return BAD;
        }
        try {
            if (sheets[k] instanceof byte[]) {
                ((byte[]) sheets[k])[i] = (byte) v;
            } else if (sheets[k] instanceof short[]) {
                ((short[]) sheets[k])[i] = (short) v;
            } else {
                ((int[]) sheets[k])[i] = v;
            }
            return 1;
        } catch (NullPointerException e) {
            return -11;
        } catch (ArrayIndexOutOfBoundsException e) {
            return -12;
        }
    }

    private int value(int k, int lane, int i) {
        return lane == 0 ? ((byte[]) sheets[k])[i] : lane == 1 ? ((short[]) sheets[k])[i] : ((int[]) sheets[k])[i];
    }

    long read(int k, int lane, int f, int n) {
        if (!in(k, 0, 3) || !in(lane, 0, 2) || !in(n, 0, 20)) {
            return BAD;
        }
        State before = now.twin();
        int i = 0;
        int found = 0;
        try {
            while (i < n) {
                int x = value(k, lane, f + 2 * i);
                int y = value(k, lane, f + 2 * i + 1);
                if (go(x, y, false) < 0) {
                    now = before;
                    return -20 - i;
                }
                i++;
            }
        } catch (NullPointerException e) {
            found = 1;
        } catch (ArrayIndexOutOfBoundsException e) {
            found = 2;
        } catch (ClassCastException e) {
            found = 3;
        }
        torn = found;
        return i;
    }

    long torn() {
        return torn;
    }

    long count(int what) {
        switch (what) {
            case 0: return told.size();
            case 1: return (images[0] == null ? 0 : 1) + (images[1] == null ? 0 : 1);
            case 2: return tape.length();
            case 3: return sheets[0] == null ? NONE : java.lang.reflect.Array.getLength(sheets[0]);
            case 4: return now.men.get(0).size();
            case 5: return now.men.get(1).size();
            default: return BAD;
        }
    }
}

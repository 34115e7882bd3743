/** A keg over two brooks: what each call answers is told, promise by promise, in ../shared/DOC.md. */
public final class KegBrooks {
    public static final int BAD = -1, STATE = -2, FULL = -3, NONE = -4;

    private static final int OVER_AHEAD = 20, OVER_BEHIND = 21;
    private static final int CELLS_LEAST = 3, CELLS_MOST = 9, CELLS_FIRST = 5;
    private static final int ROOM_LEAST = 1, ROOM_MOST = 12, SLOPE_MOST = 6, LEVEL = 3, HEDGE_MOST = 9;
    private static final int MEN_MOST = 12, FOOLS_MOST = 5, NUMBER_MOST = 12;
    private static final int REST_LEAST = 1, REST_MOST = 4, REST_FIRST = 2;
    private static final int BREAK_MOST = 7, BREAK_OUT_OF = 8, MINUTE_LAST = 999;
    private static final int HALF = 1, STEADY = 2, LATE = 3, FOLLOWS = 4;

    private static final int AHEAD_MOST = 60, ODDS_MOST = 8, REPLY_MOST = 4, HOLD_MOST = 20;
    private static final int TOLD_MOST = 8, TOLD_MINUTES_MOST = 12;
    private static final int TAPE_MOST = 320;
    private static final int SHEETS = 4, LANE_MOST = 2, SHEET_MOST = 40, READ_MOST = 20;
    private static final int NO_FAULT = 0, NULL_FAULT = 1, INDEX_FAULT = 2, CAST_FAULT = 3, SIZE_FAULT = 4;

    private final Field now = new Field();
    private final Field spare = new Field();
    private final Reader reader = new Reader();
    private final Forecast forecast = new Forecast();
    private final Odds odds = new Odds();
    private final Replies replies = new Replies();
    private final Told told = new Told();
    private final Field firstImage = new Field();
    private final Field secondImage = new Field();
    private int imagesKept;
    private final Sheet[] sheets = new Sheet[SHEETS];
    private int tornBy;

    public KegBrooks() {
        for (int k = 0; k < SHEETS; k++) {
            sheets[k] = new Sheet();
        }
    }

    // ---- the text, what there is

    public int feed(long v) {
        return reader.tape.append(v) ? reader.tape.length : FULL;
    }

    public int end(int n) {
        Tape tape = reader.tape;
        if (!within(n, 0, tape.length)) {
            return BAD;
        }
        int had = tape.length;
        tape.length = n;
        return had;
    }

    public int text() {
        int lines = 0;
        reader.open();
        // A line has more than one byte, so the tape ends long before its bytes are counted.
        while (lines < TAPE_MOST && reader.takesLine()) {
            lines++;
        }
        reader.close();
        if (reader.fault != NO_FAULT) {
            return -10 - reader.place;
        }
        now.copyOf(reader.draft);
        told.size = 0;
        imagesKept = 0;
        return lines;
    }

    public int fault() {
        return reader.fault;
    }

    public int rule(int what) {
        switch (what) {
            case 0: return now.cells;
            case 1: return now.keg;
            case 2: return now.rest;
            case 3: return now.breaks;
            case 4: return now.minute;
            default: return BAD;
        }
    }

    public int cell(int i, int what) {
        if (!now.hasCell(i)) {
            return BAD;
        }
        switch (what) {
            case 0: return now.room[i];
            case 1: return now.slope[i];
            case 2: return now.hedge[i];
            default: return BAD;
        }
    }

    public int side(int s, int what) {
        return isSide(s) ? now.sideOf(s).answer(what) : BAD;
    }

    // ---- what is changed

    public int room(int i, int v) {
        return now.hasCell(i) && within(v, ROOM_LEAST, ROOM_MOST) ? replace(now.room, i, v) : BAD;
    }

    public int slope(int i, int v) {
        return now.hasCell(i) && within(v, 0, SLOPE_MOST) ? replace(now.slope, i, v) : BAD;
    }

    public int hedge(int i, int v) {
        return now.hasCell(i) && within(v, 0, HEDGE_MOST) ? replace(now.hedge, i, v) : BAD;
    }

    public int fool(int s, int v) {
        if (!isSide(s) || !within(v, 0, FOOLS_MOST)) {
            return BAD;
        }
        Side side = now.sideOf(s);
        int was = side.fools;
        side.fools = v;
        return was;
    }

    public int men(int s, int v) {
        if (!isSide(s) || !within(v, 0, MEN_MOST - now.sideOf(s).allResting())) {
            return BAD;
        }
        Side side = now.sideOf(s);
        int was = side.fresh;
        side.fresh = v;
        return was;
    }

    public int captain(int s, int kind, int v) {
        if (!isSide(s) || !isKind(kind) || !within(v, 0, NUMBER_MOST)) {
            return BAD;
        }
        Side side = now.sideOf(s);
        int was = side.kind;
        side.kind = kind;
        side.number = v;
        return was;
    }

    public int rest(int v) {
        if (!within(v, REST_LEAST, REST_MOST)) {
            return BAD;
        }
        int was = now.rest;
        now.rest = v;
        return was;
    }

    public int breaks(int v) {
        if (!within(v, 0, BREAK_MOST)) {
            return BAD;
        }
        int was = now.breaks;
        now.breaks = v;
        return was;
    }

    public int put(int i) {
        if (!now.hasCell(i)) {
            return BAD;
        }
        int was = now.keg;
        now.keg = i;
        return was;
    }

    // ---- minutes

    public int sends(int s) {
        if (!isSide(s)) {
            return BAD;
        }
        return now.isOver() ? STATE : now.sentBy(s);
    }

    public int net(int x, int y) {
        if (!now.hasFresh(x, y)) {
            return BAD;
        }
        return now.isOver() ? STATE : 100 + now.netOf(x, y);
    }

    public int go(int x, int y, boolean out) {
        int refusal = now.passOrRefuse(x, y, out);
        return refusal != 0 ? refusal : now.keg;
    }

    public int ahead(int n) {
        return within(n, 0, AHEAD_MOST) ? forecast.kegBehind(now, n) : BAD;
    }

    public int over() {
        return forecast.minuteOver(now);
    }

    // ---- by odds

    public long odds(int n, int i, int what) {
        if (!within(n, 0, ODDS_MOST) || !now.hasPlace(i) || !within(what, 0, 1)) {
            return BAD;
        }
        odds.weigh(now, n);
        return fraction(odds.shareOf(now.spotOf(i)), odds.whole, what);
    }

    public long mean(int n, int what) {
        if (!within(n, 0, ODDS_MOST) || !within(what, 0, 1)) {
            return BAD;
        }
        odds.weigh(now, n);
        return fraction(odds.sumOfSpots(), odds.whole, what);
    }

    // ---- replies

    public int reply(int s, int n, int what) {
        if (!isSide(s) || !within(n, 1, REPLY_MOST) || what != 0 && !within(what, 10, 9 + n)) {
            return BAD;
        }
        if (now.isOver()) {
            return STATE;
        }
        replies.seek(now, s, n);
        return what == 0 ? replies.keg : replies.sentIn(what - 10);
    }

    public int hold(int s, int i, int n) {
        if (!isSide(s) || !now.hasCell(i) || !within(n, 1, HOLD_MOST)) {
            return BAD;
        }
        return now.isOver() ? STATE : forecast.leastThatHolds(now, s, i, n);
    }

    public int table(int a, int b, int n) {
        if (!isKind(a) || !isKind(b) || !within(n, 0, AHEAD_MOST)) {
            return BAD;
        }
        return forecast.kegByKinds(now, a, b, n);
    }

    public int without(int i, int n) {
        return now.hasCell(i) && within(n, 0, AHEAD_MOST) ? forecast.kegWithoutHedge(now, i, n) : BAD;
    }

    // ---- told

    public int tell(int n, int i) {
        if (!within(n, 0, TOLD_MINUTES_MOST) || !now.hasPlace(i)) {
            return BAD;
        }
        return told.add(n, i) ? told.size : FULL;
    }

    public int forget(int n) {
        if (!within(n, 0, told.size)) {
            return BAD;
        }
        int were = told.size;
        told.size = n;
        return were;
    }

    public int lies() {
        return forecast.untrueFrom(now, now.keg, told);
    }

    public int where() {
        int found = 0;
        for (int i = 0; i < now.cells; i++) {
            if (forecast.untrueFrom(now, i, told) == 0) {
                found |= 1 << i;
            }
        }
        return found;
    }

    // ---- by a seed

    public int play(int seed, int n, int what) {
        if (!within(n, 1, AHEAD_MOST) || !within(what, 0, 1)) {
            return BAD;
        }
        int went = forecast.minutesBySeed(now, seed, n);
        return what == 0 ? forecast.trial.keg : went;
    }

    // ---- images, sheets

    public int keep(int k) {
        if (!isImage(k)) {
            return BAD;
        }
        int was = imagesKept >> k & 1;
        imageOf(k).copyOf(now);
        imagesKept |= 1 << k;
        return was;
    }

    public int back(int k) {
        if (!isImage(k)) {
            return BAD;
        }
        if ((imagesKept >> k & 1) == 0) {
            return STATE;
        }
        now.copyOf(imageOf(k));
        return now.minute;
    }

    public int sheet(int k, int lane, int n) {
        Sheet sheet = sheetOf(k);
        if (sheet == null || !within(lane, 0, LANE_MOST) || n > SHEET_MOST) {
            return BAD;
        }
        if (n < 0) {
            return -10 - SIZE_FAULT;
        }
        sheet.renew(lane, n);
        return 1;
    }

    public int lay(int k, int i, int v) {
        Sheet sheet = sheetOf(k);
        if (sheet == null) {
            return BAD;
        }
        int found = sheet.faultOf(sheet.lane, i, 1);
        if (found != NO_FAULT) {
            return -10 - found;
        }
        sheet.write(i, v);
        return 1;
    }

    public int read(int k, int lane, int f, int n) {
        Sheet sheet = sheetOf(k);
        if (sheet == null || !within(lane, 0, LANE_MOST) || !within(n, 0, READ_MOST)) {
            return BAD;
        }
        // The minutes go on a spare field, so that a refused one leaves no trace of those ahead of it.
        spare.copyOf(now);
        int found = NO_FAULT;
        int went = 0;
        for (; went < n; went++) {
            int from = f + 2 * went;
            found = sheet.faultOf(lane, from, 2);
            if (found != NO_FAULT) {
                break;
            }
            if (spare.passOrRefuse(sheet.valueAt(from), sheet.valueAt(from + 1), false) != 0) {
                return -20 - went;
            }
        }
        now.copyOf(spare);
        tornBy = found;
        return went;
    }

    public int torn() {
        return tornBy;
    }

    public int count(int what) {
        switch (what) {
            case 0: return told.size;
            case 1: return Integer.bitCount(imagesKept);
            case 2: return reader.tape.length;
            case 3: return cellsOfFirstSheet();
            case 4: return now.first.allMen();
            case 5: return now.second.allMen();
            default: return BAD;
        }
    }

    // ---- what the calls share

    private int cellsOfFirstSheet() {
        Sheet sheet = sheetOf(0);
        return sheet == null || sheet.lane == Sheet.NOTHING ? NONE : sheet.size;
    }

    private Sheet sheetOf(int k) {
        return k >= 0 && k < sheets.length ? sheets[k] : null;
    }

    private Field imageOf(int k) {
        return k == 0 ? firstImage : secondImage;
    }

    private static boolean isImage(int k) {
        return k == 0 || k == 1;
    }

    private static boolean isSide(int s) {
        return s == 0 || s == 1;
    }

    private static boolean isKind(int kind) {
        return within(kind, 0, FOLLOWS);
    }

    private static boolean within(int v, int least, int most) {
        return v >= least && v <= most;
    }

    private static int replace(int[] row, int i, int v) {
        if (i < 0 || i >= row.length) {
            return BAD;
        }
        int was = row[i];
        row[i] = v;
        return was;
    }

    /** One number of a fraction in lowest terms: 0 the numerator, 1 the denominator. */
    private static long fraction(long above, long below, int what) {
        long divisor = commonDivisor(above, below);
        if (divisor <= 0) {
            return what == 0 ? 0 : 1;
        }
        return what == 0 ? above / divisor : below / divisor;
    }

    private static long commonDivisor(long a, long b) {
        // A remainder at least halves in two rounds, so 128 rounds are more than longs can need.
        for (int round = 0; round < 128 && b != 0; round++) {
            long left = a % b;
            a = b;
            b = left;
        }
        return a;
    }

    /** One of the two villages. */
    private static final class Side {
        int fresh;
        // By the minutes that they still rest; nobody stands at 0.
        final int[] resting = new int[REST_MOST + 1];
        int fools;
        int kind;
        int number;

        void clear() {
            fresh = 0;
            for (int left = 0; left <= REST_MOST; left++) {
                resting[left] = 0;
            }
            fools = 0;
            kind = 0;
            number = 0;
        }

        void copyOf(Side other) {
            fresh = other.fresh;
            for (int left = 0; left <= REST_MOST; left++) {
                resting[left] = other.resting[left];
            }
            fools = other.fools;
            kind = other.kind;
            number = other.number;
        }

        int answer(int what) {
            if (within(what, REST_LEAST, REST_MOST)) {
                return resting[what];
            }
            switch (what) {
                case 0: return fresh;
                case 5: return fools;
                case 6: return kind;
                case 7: return number;
                default: return BAD;
            }
        }

        int allResting() {
            int all = 0;
            for (int left = REST_LEAST; left <= REST_MOST; left++) {
                all += resting[left];
            }
            return all;
        }

        int allMen() {
            return fresh + allResting();
        }

        int pushOf(int sent, int room) {
            return Math.max(0, Math.min(sent, room) - fools);
        }

        /** A minute's rest for those who rested already, then the sent ones join them. */
        void tire(int sent, int rest) {
            fresh += resting[REST_LEAST] - sent;
            for (int left = REST_LEAST; left < REST_MOST; left++) {
                resting[left] = resting[left + 1];
            }
            resting[REST_MOST] = 0;
            if (within(rest, REST_LEAST, REST_MOST)) {
                resting[rest] += sent;
            }
        }
    }

    /** The cells, the keg and both sides at one minute. */
    private static final class Field {
        int cells;
        int keg;
        int rest;
        int breaks;
        int minute;
        final int[] room = new int[CELLS_MOST];
        final int[] slope = new int[CELLS_MOST];
        final int[] hedge = new int[CELLS_MOST];
        final Side first = new Side();
        final Side second = new Side();

        Field() {
            clear();
        }

        void clear() {
            cells = CELLS_FIRST;
            keg = CELLS_FIRST / 2;
            rest = REST_FIRST;
            breaks = 0;
            minute = 0;
            for (int i = 0; i < CELLS_MOST; i++) {
                room[i] = ROOM_MOST;
                slope[i] = LEVEL;
                hedge[i] = 0;
            }
            first.clear();
            second.clear();
        }

        void copyOf(Field other) {
            cells = other.cells;
            keg = other.keg;
            rest = other.rest;
            breaks = other.breaks;
            minute = other.minute;
            System.arraycopy(other.room, 0, room, 0, CELLS_MOST);
            System.arraycopy(other.slope, 0, slope, 0, CELLS_MOST);
            System.arraycopy(other.hedge, 0, hedge, 0, CELLS_MOST);
            first.copyOf(other.first);
            second.copyOf(other.second);
        }

        Side sideOf(int s) {
            return s == 0 ? first : second;
        }

        boolean hasCell(int i) {
            return i >= 0 && i < cells && i < CELLS_MOST;
        }

        boolean hasPlace(int i) {
            return hasCell(i) || i == OVER_AHEAD || i == OVER_BEHIND;
        }

        boolean isOver() {
            return keg < 0 || keg >= cells || keg >= CELLS_MOST;
        }

        /** How far a place is from the brook of side 0: 0 is over it, CELLS and 1 over the other. */
        int spotOf(int place) {
            if (place == OVER_AHEAD) {
                return 0;
            }
            return place == OVER_BEHIND ? cells + 1 : place + 1;
        }

        int spot() {
            return spotOf(keg);
        }

        /** How far the keg is from a side's own brook. */
        int distanceOf(int s) {
            return s == 0 ? spot() : cells + 1 - spot();
        }

        /** How near to a side's own brook the keg can be at the best, some minutes being left. */
        int nearestOf(int s, int left) {
            return isOver() ? distanceOf(s) : Math.max(0, distanceOf(s) - left);
        }

        boolean isBeyond(int s, int i) {
            return distanceOf(s) > (s == 0 ? i + 1 : cells - i);
        }

        boolean hasFresh(int x, int y) {
            return within(x, 0, first.fresh) && within(y, 0, second.fresh);
        }

        /** A minute as by go(): why it is refused; 0, if it went. */
        int passOrRefuse(int x, int y, boolean out) {
            if (!hasFresh(x, y)) {
                return BAD;
            }
            if (isOver()) {
                return STATE;
            }
            if (minute >= MINUTE_LAST) {
                return FULL;
            }
            pass(x, y, out);
            return 0;
        }

        int sentBy(int s) {
            Side own = sideOf(s);
            switch (own.kind) {
                case HALF: return own.fresh / 2;
                case STEADY: return Math.min(own.number, own.fresh);
                case LATE: return isLateFor(s, own.number) ? own.fresh : 0;
                case FOLLOWS: return Math.min(sideOf(1 - s).fresh, own.fresh);
                default: return own.fresh;
            }
        }

        private boolean isLateFor(int s, int number) {
            return s == 0 ? keg >= cells - number : keg < number;
        }

        int netOf(int x, int y) {
            if (isOver()) {
                return 0;
            }
            return second.pushOf(y, room[keg]) - first.pushOf(x, room[keg]) + slope[keg] - LEVEL;
        }

        void pass(int x, int y, boolean out) {
            if (isOver()) {
                return;
            }
            int way = wayOf(netOf(x, y));
            shift(way);
            if (out) {
                shift(way);
            }
            first.tire(x, rest);
            second.tire(y, rest);
            minute++;
        }

        private int wayOf(int net) {
            if (net > hedgeBetween(keg)) {
                return 1;
            }
            return -net > hedgeBetween(keg - 1) ? -1 : 0;
        }

        /** The hedge between a cell and the next one; none stands ahead of the first cell or behind the last. */
        private int hedgeBetween(int i) {
            return i >= 0 && i < cells - 1 && i < CELLS_MOST ? hedge[i] : 0;
        }

        private void shift(int way) {
            if (isOver()) {
                return;
            }
            int next = keg + way;
            if (next < 0) {
                keg = OVER_AHEAD;
            } else if (next >= cells) {
                keg = OVER_BEHIND;
            } else {
                keg = next;
            }
        }

        void passByCaptains(boolean out) {
            if (!isOver()) {
                pass(sentBy(0), sentBy(1), out);
            }
        }

        void passByCaptainsBut(int s, int sent) {
            if (!isOver()) {
                int other = sentBy(1 - s);
                pass(s == 0 ? sent : other, s == 0 ? other : sent, false);
            }
        }
    }

    /** What would be, tried on a field of its own. */
    private static final class Forecast {
        final Field trial = new Field();

        int kegBehind(Field now, int n) {
            trial.copyOf(now);
            return letPass(n);
        }

        int kegByKinds(Field now, int a, int b, int n) {
            trial.copyOf(now);
            trial.first.kind = a;
            trial.second.kind = b;
            return letPass(n);
        }

        int kegWithoutHedge(Field now, int i, int n) {
            trial.copyOf(now);
            replace(trial.hedge, i, 0);
            return letPass(n);
        }

        private int letPass(int n) {
            for (int m = 0; m < n; m++) {
                trial.passByCaptains(false);
            }
            return trial.keg;
        }

        int minuteOver(Field now) {
            trial.copyOf(now);
            for (int m = 0; m <= AHEAD_MOST; m++) {
                if (trial.isOver()) {
                    return m;
                }
                trial.passByCaptains(false);
            }
            return NONE;
        }

        int leastThatHolds(Field now, int s, int i, int n) {
            for (int number = 0; number <= NUMBER_MOST; number++) {
                trial.copyOf(now);
                Side side = trial.sideOf(s);
                side.kind = STEADY;
                side.number = number;
                if (holds(s, i, n)) {
                    return number;
                }
            }
            return NONE;
        }

        private boolean holds(int s, int i, int n) {
            for (int m = 0; m < n; m++) {
                trial.passByCaptains(false);
                if (trial.isBeyond(s, i)) {
                    return false;
                }
            }
            return true;
        }

        /** Bits of what is told that is not so, were the keg in a place now. */
        int untrueFrom(Field now, int place, Told told) {
            trial.copyOf(now);
            trial.keg = place;
            int untrue = 0;
            for (int m = 0; m <= TOLD_MINUTES_MOST; m++) {
                untrue |= told.untrueIn(m, trial.keg);
                trial.passByCaptains(false);
            }
            return untrue;
        }

        /** How many minutes go by a seed; the trial stands behind them. */
        int minutesBySeed(Field now, int seed, int n) {
            trial.copyOf(now);
            int went = 0;
            while (went < n && !trial.isOver()) {
                seed = seed * 1103515245 + 12345;
                trial.passByCaptains((seed >>> 16 & 32767) % BREAK_OUT_OF < trial.breaks);
                went++;
            }
            return went;
        }
    }

    /** Fields for minutes that branch: the one behind k minutes is kept while those behind it are tried. */
    private static final class Stages {
        private final Field[] fields = new Field[ODDS_MOST + 1];
        // Never asked for; it only stands in where an array might have nothing.
        private final Field beyond = new Field();

        Stages() {
            for (int k = 0; k < fields.length; k++) {
                fields[k] = new Field();
            }
        }

        Field stage(int k) {
            Field field = k >= 0 && k < fields.length ? fields[k] : null;
            return field == null ? beyond : field;
        }
    }

    /** By how many of so many equal shares the keg is in which spot. */
    private static final class Odds {
        private final Stages stages = new Stages();
        private final long[] shares = new long[CELLS_MOST + 2];
        long whole = 1;

        void weigh(Field now, int n) {
            for (int spot = 0; spot < shares.length; spot++) {
                shares[spot] = 0;
            }
            whole = wholeOf(n);
            stages.stage(0).copyOf(now);
            branch(this, 0, n, 1);
        }

        /** 8 to the power of n. */
        private static long wholeOf(int n) {
            return 1L << 3 * n;
        }

        private static void branch(Odds odds, int k, int left, long weight) {
            Field here = odds.stages.stage(k);
            if (left <= 0 || k >= ODDS_MOST || here.isOver()) {
                odds.add(here.spot(), weight * wholeOf(left));
                return;
            }
            Field next = odds.stages.stage(k + 1);
            next.copyOf(here);
            next.passByCaptains(false);
            branch(odds, k + 1, left - 1, weight * (BREAK_OUT_OF - here.breaks));
            if (here.breaks > 0) {
                next.copyOf(here);
                next.passByCaptains(true);
                branch(odds, k + 1, left - 1, weight * here.breaks);
            }
        }

        private void add(int spot, long weight) {
            if (spot >= 0 && spot < shares.length) {
                shares[spot] += weight;
            }
        }

        long shareOf(int spot) {
            return spot >= 0 && spot < shares.length ? shares[spot] : 0;
        }

        long sumOfSpots() {
            long sum = 0;
            for (int spot = 0; spot < shares.length; spot++) {
                sum += shares[spot] * spot;
            }
            return sum;
        }
    }

    /** The best that a side can send, minute by minute, against the other one's captain. */
    private static final class Replies {
        private final Stages stages = new Stages();
        private final int[] tried = new int[REPLY_MOST];
        private final int[] best = new int[REPLY_MOST];
        private int side;
        private int minutes;
        private int nearest;
        int keg;

        void seek(Field now, int s, int n) {
            side = s;
            minutes = n;
            nearest = CELLS_MOST + 2;
            stages.stage(0).copyOf(now);
            search(this, 0);
        }

        private static void search(Replies replies, int k) {
            Field here = replies.stages.stage(k);
            if (k >= replies.minutes || k >= REPLY_MOST) {
                replies.take(here);
                return;
            }
            int left = replies.minutes - k - 1;
            int most = here.isOver() ? 0 : here.sideOf(replies.side).fresh;
            Field next = replies.stages.stage(k + 1);
            for (int sent = 0; sent <= most; sent++) {
                replies.tried[k] = sent;
                next.copyOf(here);
                next.passByCaptainsBut(replies.side, sent);
                // What can only be as near comes later by numbers, so it is no better.
                if (next.nearestOf(replies.side, left) < replies.nearest) {
                    search(replies, k + 1);
                }
            }
        }

        private void take(Field behind) {
            nearest = behind.distanceOf(side);
            keg = behind.keg;
            System.arraycopy(tried, 0, best, 0, REPLY_MOST);
        }

        int sentIn(int k) {
            return k >= 0 && k < REPLY_MOST ? best[k] : BAD;
        }
    }

    /** Who said that the keg will be where behind so many minutes. */
    private static final class Told {
        private final int[] minutes = new int[TOLD_MOST];
        private final int[] places = new int[TOLD_MOST];
        int size;

        boolean add(int n, int place) {
            if (size >= TOLD_MOST || size < 0) {
                return false;
            }
            minutes[size] = n;
            places[size] = place;
            size++;
            return true;
        }

        int untrueIn(int minute, int keg) {
            int untrue = 0;
            for (int k = 0; k < size && k < TOLD_MOST; k++) {
                if (minutes[k] == minute && places[k] != keg) {
                    untrue |= 1 << k;
                }
            }
            return untrue;
        }
    }

    /** A row of numbers of a lane, or nothing. */
    private static final class Sheet {
        static final int NOTHING = -1;

        int lane = NOTHING;
        int size;
        private final int[] row = new int[SHEET_MOST];

        void renew(int newLane, int n) {
            lane = newLane;
            size = Math.max(0, Math.min(n, SHEET_MOST));
            for (int i = 0; i < SHEET_MOST; i++) {
                row[i] = 0;
            }
        }

        /** What the machine finds, if some cells from one on are used as of a lane. */
        int faultOf(int asLane, int from, int some) {
            if (lane == NOTHING) {
                return NULL_FAULT;
            }
            if (lane != asLane) {
                return CAST_FAULT;
            }
            return from < 0 || from > size - some ? INDEX_FAULT : NO_FAULT;
        }

        void write(int i, int v) {
            if (i >= 0 && i < size && i < SHEET_MOST) {
                row[i] = lowestBits(v);
            }
        }

        private int lowestBits(int v) {
            switch (lane) {
                case 0: return (byte) v;
                case 1: return (short) v;
                default: return v;
            }
        }

        int valueAt(int i) {
            return i >= 0 && i < size && i < SHEET_MOST ? row[i] : 0;
        }
    }

    /** The bytes that a text is fed by, and its tokens, one at a time. */
    private static final class Tape {
        static final int END = 0, NAME = 1, NUMBER = 2, SIGN = 3, WRONG = 4;
        private static final int FIGURES_MOST = 2;

        private final byte[] bytes = new byte[TAPE_MOST];
        int length;
        private int next;
        int kind;
        int start;
        int value;

        boolean append(long v) {
            if (length < 0 || length > TAPE_MOST - 8) {
                return false;
            }
            for (int shift = 56; shift >= 0; shift -= 8) {
                bytes[length] = (byte) (v >> shift);
                length++;
            }
            return true;
        }

        void rewind() {
            next = 0;
        }

        void advance() {
            while (next < length && byteAt(next) == ' ') {
                next++;
            }
            start = next;
            kind = kindOf(byteAt(next));
            value = 0;
            if (kind == NAME) {
                while (next < length && kindOf(byteAt(next)) == NAME) {
                    next++;
                }
            } else if (kind == NUMBER) {
                while (next < length && kindOf(byteAt(next)) == NUMBER) {
                    value = value * 10 + byteAt(next) - '0';
                    next++;
                }
            } else if (kind != END) {
                next++;
            }
            if (kind == NUMBER && next - start > FIGURES_MOST) {
                kind = WRONG;
            }
        }

        /** A byte without sign; -1 behind the last one. */
        private int byteAt(int i) {
            return i >= 0 && i < length && i < TAPE_MOST ? bytes[i] & 255 : -1;
        }

        private static int kindOf(int sign) {
            if (sign < 0) {
                return END;
            }
            if (sign >= 'a' && sign <= 'z') {
                return NAME;
            }
            if (sign >= '0' && sign <= '9') {
                return NUMBER;
            }
            return sign == ';' ? SIGN : WRONG;
        }

        /** Which of the words (a blank between two) the token is; -1, if it is none of them. */
        int wordIn(String words) {
            int word = 0;
            int from = 0;
            for (int i = 0; i <= words.length() && kind == NAME; i++) {
                if (i == words.length() || words.charAt(i) == ' ') {
                    if (isPartOf(words, from, i)) {
                        return word;
                    }
                    word++;
                    from = i + 1;
                }
            }
            return -1;
        }

        private boolean isPartOf(String words, int from, int to) {
            if (to - from != next - start || from < 0 || to > words.length()) {
                return false;
            }
            for (int i = from; i < to; i++) {
                if (words.charAt(i) != byteAt(start + i - from)) {
                    return false;
                }
            }
            return true;
        }
    }

    /** Takes a text from the tape into a draft, line by line; the first fault stops it. */
    private static final class Reader {
        private static final String LINES = "cells room slope hedge keg side fools rest break";
        private static final String KINDS = "all half steady late follows";
        private static final int CELLS = 0, ROOM = 1, SLOPE = 2, HEDGE = 3, KEG = 4;
        private static final int SIDE = 5, FOOLS = 6, REST = 7, BREAK = 8, LINE_KINDS = 9;
        private static final int NO_TOKEN = 1, OUT_OF_PLACE = 2, OUT_OF_BOUNDS = 3, TWICE = 4, NO_CELL = 5;
        private static final int UNTOLD = -1;

        final Tape tape = new Tape();
        final Field draft = new Field();
        // By the kind of line, bits of the cells or sides that it told (bit 0 where it names none).
        private final int[] seen = new int[LINE_KINDS];
        private int farthestCell;
        int fault;
        int place;

        void open() {
            tape.rewind();
            draft.clear();
            draft.keg = UNTOLD;
            for (int i = 0; i < LINE_KINDS; i++) {
                seen[i] = 0;
            }
            farthestCell = 0;
            fault = NO_FAULT;
        }

        void close() {
            if (fault == NO_FAULT && farthestCell >= draft.cells) {
                fault = NO_CELL;
                place = tape.length;
            }
            if (draft.keg == UNTOLD) {
                draft.keg = draft.cells / 2;
            }
            tape.length = 0;
        }

        /** Whether there was one line more, without a fault. */
        boolean takesLine() {
            next();
            if (fault != NO_FAULT || tape.kind == Tape.END) {
                return false;
            }
            int line = tape.wordIn(LINES);
            switch (line) {
                case CELLS: draft.cells = onlyNumber(line, CELLS_LEAST, CELLS_MOST); break;
                case ROOM: cellLine(line, draft.room, ROOM_LEAST, ROOM_MOST); break;
                case SLOPE: cellLine(line, draft.slope, 0, SLOPE_MOST); break;
                case HEDGE: cellLine(line, draft.hedge, 0, HEDGE_MOST); break;
                case KEG: draft.keg = noted(onlyNumber(line, 0, CELLS_MOST - 1)); break;
                case SIDE: sideLine(line); break;
                case FOOLS: foolsLine(line); break;
                case REST: draft.rest = onlyNumber(line, REST_LEAST, REST_MOST); break;
                case BREAK: draft.breaks = onlyNumber(line, 0, BREAK_MOST); break;
                default: refuse(OUT_OF_PLACE); break;
            }
            next();
            if (tape.kind != Tape.SIGN) {
                refuse(OUT_OF_PLACE);
            }
            return fault == NO_FAULT;
        }

        private int onlyNumber(int line, int least, int most) {
            markSeen(line, 0);
            return number(least, most);
        }

        private void cellLine(int line, int[] row, int least, int most) {
            int i = noted(number(0, CELLS_MOST - 1));
            markSeen(line, i);
            replace(row, i, number(least, most));
        }

        private void sideLine(int line) {
            int s = number(0, 1);
            markSeen(line, s);
            Side side = draft.sideOf(s);
            side.fresh = number(0, MEN_MOST);
            next();
            side.kind = tape.wordIn(KINDS);
            if (side.kind < 0) {
                refuse(OUT_OF_PLACE);
            }
            side.number = number(0, NUMBER_MOST);
        }

        private void foolsLine(int line) {
            int s = number(0, 1);
            markSeen(line, s);
            draft.sideOf(s).fools = number(0, FOOLS_MOST);
        }

        /** A cell that is named: whether there is such a one is known behind the last line only. */
        private int noted(int i) {
            farthestCell = Math.max(farthestCell, i);
            return i;
        }

        private void markSeen(int line, int bit) {
            if (line < 0 || line >= LINE_KINDS) {
                return;
            }
            if ((seen[line] >> bit & 1) != 0) {
                refuse(TWICE);
            }
            seen[line] |= 1 << bit;
        }

        /** The number that comes next; the least one, if a fault has been met (the draft is lost then). */
        private int number(int least, int most) {
            next();
            if (tape.kind != Tape.NUMBER) {
                refuse(OUT_OF_PLACE);
            } else if (tape.value < least || tape.value > most) {
                refuse(OUT_OF_BOUNDS);
            }
            return fault == NO_FAULT ? tape.value : least;
        }

        /** The next token, if no fault has been met. */
        private void next() {
            if (fault == NO_FAULT) {
                tape.advance();
                if (tape.kind == Tape.WRONG) {
                    refuse(NO_TOKEN);
                }
            }
        }

        /** The first fault stays. */
        private void refuse(int found) {
            if (fault == NO_FAULT) {
                fault = found;
                place = tape.start;
            }
        }
    }
}

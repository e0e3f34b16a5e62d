/**
 * The census that is taken from the tower by shadows on the snow.
 *
 * <p>All rows are made in the constructor and used again, so that no call makes an object.
 */
public final class SnowCensus {
    public static final int UNKNOWN = -1, OUTSIDE = -2, STATE = -3, FULL = -4, NONE = -9;
    public static final long LOST = Long.MIN_VALUE;

    private static final int NULL = 1, CAST = 2, INDEX = 3, SIZE = 4;
    private static final int FAULT_BASE = -10, PLACE_BASE = -100;
    private static final int STANDER = 0, RIDER = 1, POLE = 2;
    private static final int BYTES = 0, SHORTS = 1, INTS = 2;
    private static final int MOST_STANDERS = 5, MOST_DIGIT = 9, MOST_SUN = 3;
    private static final int MOST_READINGS = 8, MOST_COUNTED = 99, MOST_WALKS = 20;
    private static final int SHEETS = 4, MOST_CELLS = 60;
    private static final int TEXT_HEAD = 3, TEXT_PART = 4;
    /** The last stander may be on foot 9, and its shadow 27 feet long. */
    private static final int FEET = MOST_DIGIT + MOST_DIGIT * MOST_SUN + 1;

    private final Snow snow;
    /** A copy of the snow on which things are tried, so that nothing is changed. */
    private final Snow trial;
    private final Shadows shadows;
    private final Readings readings;
    private final Sheet[] sheets;
    private int traced;
    private int latestFault;

    public SnowCensus() {
        snow = new Snow();
        trial = new Snow();
        shadows = new Shadows();
        readings = new Readings();
        sheets = new Sheet[SHEETS];
        for (int k = 0; k < sheets.length; k++) {
            sheets[k] = new Sheet();
        }
    }

    // ---- 1 the field

    public int field(int sheet, int lane, int i, int n) {
        latestFault = 0;
        Sheet text = sheetAt(sheet);
        if (text == null) {
            return UNKNOWN;
        }
        if (!isLane(lane)) {
            return OUTSIDE;
        }
        int wrong = text.faultAs(lane);
        if (wrong == 0 && n < 0) {
            wrong = SIZE;
        }
        if (wrong == 0 && !text.holds(i, n)) {
            wrong = INDEX;
        }
        if (wrong != 0) {
            return failed(wrong);
        }
        int place = firstFault(text, i, n);
        if (place != NONE) {
            return PLACE_BASE - place;
        }
        layField(text, i, n);
        return snow.standers;
    }

    public int ofStander(int a, int what) {
        if (!snow.has(a)) {
            return UNKNOWN;
        }
        switch (what) {
            case 0:
                return snow.kind[a];
            case 1:
                return snow.foot[a];
            case 2:
                return snow.height[a];
            default:
                return OUTSIDE;
        }
    }

    public int walk(int a, int foot) {
        if (!snow.has(a)) {
            return UNKNOWN;
        }
        if (!isDigit(foot)) {
            return OUTSIDE;
        }
        int was = snow.foot[a];
        snow.foot[a] = foot;
        return was;
    }

    public int grow(int a, int v) {
        if (!snow.has(a)) {
            return UNKNOWN;
        }
        if (!isDigit(v)) {
            return OUTSIDE;
        }
        int was = snow.height[a];
        snow.height[a] = v;
        return was;
    }

    public int build(int v) {
        if (!isDigit(v)) {
            return OUTSIDE;
        }
        if (!snow.isLaid()) {
            return STATE;
        }
        int was = snow.tower;
        snow.tower = v;
        return was;
    }

    public int shade(int a, int sun) {
        if (!snow.has(a)) {
            return UNKNOWN;
        }
        return isSun(sun) ? snow.shadeOf(a, sun) : OUTSIDE;
    }

    // ---- 2 the census

    public int hidden(int sun) {
        int refusal = refusalAt(sun);
        return refusal != 0 ? refusal : snow.hiddenSet(sun);
    }

    public int census(int sun) {
        int refusal = refusalAt(sun);
        return refusal != 0 ? refusal : countedOn(snow, sun, snow.everyone());
    }

    public int runs(int sun, int what) {
        if (what < 0 || what > 2) {
            return OUTSIDE;
        }
        int refusal = refusalAt(sun);
        if (refusal != 0) {
            return refusal;
        }
        shadows.measure(snow.darkFeet(sun, snow.everyone()), snow.span);
        switch (what) {
            case 0:
                return shadows.runCount;
            case 1:
                return shadows.longest;
            default:
                return shadows.need;
        }
    }

    public int fair() {
        if (!snow.isLaid()) {
            return STATE;
        }
        int best = 1;
        int leastOff = offAt(1);
        for (int sun = 2; sun <= MOST_SUN; sun++) {
            int off = offAt(sun);
            if (off < leastOff) {
                best = sun;
                leastOff = off;
            }
        }
        return best;
    }

    public int walks(int sun, int sheet, int lane, int i, int n, int what) {
        latestFault = 0;
        Sheet row = sheetAt(sheet);
        if (row == null) {
            return UNKNOWN;
        }
        if (!isSun(sun) || !isLane(lane) || n < 0 || n > MOST_WALKS || !isAskedOfWalks(what)) {
            return OUTSIDE;
        }
        int wrong = row.faultAs(lane);
        if (wrong == 0 && !row.holds(i, 2 * n)) {
            wrong = INDEX;
        }
        if (wrong != 0) {
            return failed(wrong);
        }
        if (!snow.isLaid()) {
            return STATE;
        }
        int refusal = refusalOfPairs(row, i, n);
        if (refusal != 0) {
            return refusal;
        }
        return behindWalks(sun, walkOnTrial(row, i, n), what);
    }

    // ---- 3 how to stand

    public int pair(int a, int b, int sun, int what) {
        if (!snow.has(a) || !snow.has(b) || a == b) {
            return UNKNOWN;
        }
        if (!isSun(sun) || what < 0 || what > 2) {
            return OUTSIDE;
        }
        trial.becomeLike(snow);
        int least = NONE;
        int footOfA = NONE;
        int footOfB = NONE;
        for (int first = snow.firstLitFoot(sun); first <= MOST_DIGIT; first++) {
            for (int second = snow.firstLitFoot(sun); second <= MOST_DIGIT; second++) {
                trial.foot[a] = first;
                trial.foot[b] = second;
                int counted = countedOn(trial, sun, trial.everyone());
                if (least == NONE || counted < least) {
                    least = counted;
                    footOfA = first;
                    footOfB = second;
                }
            }
        }
        switch (what) {
            case 0:
                return least;
            case 1:
                return footOfA;
            default:
                return footOfB;
        }
    }

    public int send(int sun, int v) {
        int refusal = refusalOfCount(sun, v);
        if (refusal != 0) {
            return refusal;
        }
        int everyone = snow.everyone();
        int best = NONE;
        for (int indoors = 0; indoors <= everyone; indoors++) {
            boolean fewer = best == NONE || Integer.bitCount(indoors) < Integer.bitCount(best);
            if (fewer && countedOn(snow, sun, everyone & ~indoors) == v) {
                best = indoors;
            }
        }
        return best;
    }

    // ---- 4 what was counted

    public int reading(int sun, int v) {
        int refusal = refusalOfCount(sun, v);
        if (refusal != 0) {
            return refusal;
        }
        int number = readings.count;
        return readings.note(sun, v) ? number : FULL;
    }

    public int back(int k) {
        if (k < 0 || k > readings.count) {
            return OUTSIDE;
        }
        readings.count -= k;
        return readings.count;
    }

    public int heights(int a) {
        if (!snow.has(a)) {
            return UNKNOWN;
        }
        trial.becomeLike(snow);
        int set = 0;
        for (int v = 0; v <= MOST_DIGIT; v++) {
            trial.height[a] = v;
            if (areReadingsSoOnTrial()) {
                set |= 1 << v;
            }
        }
        return set;
    }

    public int kinds(int a) {
        if (!snow.has(a)) {
            return UNKNOWN;
        }
        trial.becomeLike(snow);
        int set = 0;
        for (int kind = STANDER; kind <= POLE; kind++) {
            trial.kind[a] = kind;
            if (areReadingsSoOnTrial()) {
                set |= 1 << kind;
            }
        }
        return set;
    }

    public int spans() {
        if (!snow.isLaid()) {
            return STATE;
        }
        trial.becomeLike(snow);
        int set = 0;
        for (int span = 1; span <= MOST_DIGIT; span++) {
            trial.span = span;
            if (areReadingsSoOnTrial()) {
                set |= 1 << span;
            }
        }
        return set;
    }

    public long odds(int sun, int v, int which) {
        if (refusalOfCount(sun, v) != 0 || which < 0 || which > 1) {
            return LOST;
        }
        int everyone = snow.everyone();
        int upper = 0;
        for (int out = 0; out <= everyone; out++) {
            if (countedOn(snow, sun, out) == v) {
                upper++;
            }
        }
        int lower = everyone + 1;
        // The lower number is a power of 2, so 2 is all that both can share.
        for (int k = 0; k < MOST_STANDERS && lower % 2 == 0 && upper % 2 == 0; k++) {
            upper /= 2;
            lower /= 2;
        }
        return which == 0 ? upper : lower;
    }

    // ---- 5 sheets, parts

    public int sheet(int k, int lane, int n) {
        latestFault = 0;
        Sheet sheet = sheetAt(k);
        if (sheet == null) {
            return UNKNOWN;
        }
        if (!isLane(lane) || n > MOST_CELLS) {
            return OUTSIDE;
        }
        if (n < 0) {
            return failed(SIZE);
        }
        sheet.renew(lane, n);
        return 1;
    }

    public int lose(int k) {
        Sheet sheet = sheetAt(k);
        if (sheet == null) {
            return UNKNOWN;
        }
        boolean had = sheet.hasRow;
        sheet.empty();
        return had ? 1 : 0;
    }

    public int put(int k, int i, int v) {
        latestFault = 0;
        Sheet sheet = sheetAt(k);
        if (sheet == null) {
            return UNKNOWN;
        }
        if (!sheet.hasRow) {
            return failed(NULL);
        }
        if (!sheet.hasCell(i)) {
            return failed(INDEX);
        }
        sheet.cells[i] = sheet.cutToLane(v);
        return 1;
    }

    public long cell(int k, int i, int lane) {
        latestFault = 0;
        Sheet sheet = sheetAt(k);
        if (sheet == null || !isLane(lane)) {
            return LOST;
        }
        latestFault = sheet.faultAs(lane);
        if (latestFault == 0 && !sheet.hasCell(i)) {
            latestFault = INDEX;
        }
        return latestFault == 0 ? sheet.at(i) : LOST;
    }

    public int copy(int k, int i, int other, int j, int n) {
        latestFault = 0;
        Sheet from = sheetAt(k);
        Sheet to = sheetAt(other);
        if (from == null || to == null) {
            return UNKNOWN;
        }
        if (!from.hasRow || !to.hasRow) {
            return failed(NULL);
        }
        if (from.lane != to.lane) {
            return failed(CAST);
        }
        if (!from.holds(i, n) || !to.holds(j, n)) {
            return failed(INDEX);
        }
        // arraycopy goes by what the cells were, also where both parts overlap.
        System.arraycopy(from.cells, i, to.cells, j, n);
        return n;
    }

    public int tell(int a) {
        if (!snow.has(a)) {
            return UNKNOWN;
        }
        switch (snow.kind[a]) {
            case RIDER:
                return tellAsRider(a);
            case POLE:
                return tellAsPole(a);
            default:
                return tellAsStander(a);
        }
    }

    public int tax(int a) {
        if (!snow.has(a)) {
            return UNKNOWN;
        }
        if (snow.kind[a] == POLE) {
            leaveInTrace(5);
            return 60;
        }
        leaveInTrace(4);
        return a;
    }

    public int as(int a, int kind) {
        latestFault = 0;
        if (!snow.has(a)) {
            return UNKNOWN;
        }
        if (kind < STANDER || kind > POLE) {
            return OUTSIDE;
        }
        // Each kind is one of all kinds below it, too.
        return kind <= snow.kind[a] ? 1 : failed(CAST);
    }

    public int trace() {
        return traced;
    }

    public int fault() {
        return latestFault;
    }

    public int many(int what) {
        switch (what) {
            case 0:
                return snow.standers;
            case 1:
                return snow.span;
            case 2:
                return snow.tower;
            case 3:
                return readings.count;
            default:
                return OUTSIDE;
        }
    }

    // ---- numbers as told, refusals, faults

    private static boolean isDigit(int v) {
        return v >= 0 && v <= MOST_DIGIT;
    }

    private static boolean isSun(int sun) {
        return sun >= 1 && sun <= MOST_SUN;
    }

    private static boolean isLane(int lane) {
        return lane >= BYTES && lane <= INTS;
    }

    private static boolean isAskedOfWalks(int what) {
        return what >= 0 && what <= 3 || what >= 10 && what < 10 + MOST_STANDERS;
    }

    private int refusalAt(int sun) {
        if (!isSun(sun)) {
            return OUTSIDE;
        }
        return snow.isLaid() ? 0 : STATE;
    }

    private int refusalOfCount(int sun, int v) {
        return v < 0 || v > MOST_COUNTED ? OUTSIDE : refusalAt(sun);
    }

    private int failed(int fault) {
        latestFault = fault;
        return FAULT_BASE - fault;
    }

    private Sheet sheetAt(int k) {
        return k >= 0 && k < sheets.length ? sheets[k] : null;
    }

    // ---- the text

    /** The first fault of a text, NONE if it is one. */
    private static int firstFault(Sheet text, int i, int n) {
        for (int place = 0; place < n; place++) {
            if (!goesOnWith(place, text.at(i + place))) {
                return place;
            }
        }
        boolean isWhole = n >= TEXT_HEAD + TEXT_PART && (n - TEXT_HEAD) % TEXT_PART == 0;
        return isWhole ? NONE : n;
    }

    private static boolean goesOnWith(int place, int code) {
        if (place == 0) {
            return code == 'f';
        }
        if (place == 1) {
            return code >= '1' && code <= '9';
        }
        if (place == 2) {
            return isDigitCode(code);
        }
        if (place >= TEXT_HEAD + TEXT_PART * MOST_STANDERS) {
            return false;
        }
        switch ((place - TEXT_HEAD) % TEXT_PART) {
            case 0:
                return code == ';';
            case 1:
                return kindOfLetter(code) != NONE;
            default:
                return isDigitCode(code);
        }
    }

    private static boolean isDigitCode(int code) {
        return code >= '0' && code <= '9';
    }

    private static int kindOfLetter(int code) {
        switch (code) {
            case 's':
                return STANDER;
            case 'r':
                return RIDER;
            case 'p':
                return POLE;
            default:
                return NONE;
        }
    }

    /** Only for a text without a fault. */
    private void layField(Sheet text, int i, int n) {
        snow.span = text.at(i + 1) - '0';
        snow.tower = text.at(i + 2) - '0';
        snow.standers = (n - TEXT_HEAD) / TEXT_PART;
        for (int a = 0; a < snow.standers && a < MOST_STANDERS; a++) {
            int part = i + TEXT_HEAD + TEXT_PART * a;
            snow.kind[a] = kindOfLetter(text.at(part + 1));
            snow.foot[a] = text.at(part + 2) - '0';
            snow.height[a] = text.at(part + 3) - '0';
        }
        readings.count = 0;
    }

    // ---- counting

    /** The census of those who are in the set out. */
    private int countedOn(Snow where, int sun, int out) {
        shadows.measure(where.darkFeet(sun, out), where.span);
        return shadows.counted;
    }

    private int offAt(int sun) {
        return Math.abs(countedOn(snow, sun, snow.everyone()) - snow.standers);
    }

    private boolean areReadingsSoOnTrial() {
        for (int k = 0; k < readings.count && k < MOST_READINGS; k++) {
            if (countedOn(trial, readings.sun[k], trial.everyone()) != readings.counted[k]) {
                return false;
            }
        }
        return true;
    }

    // ---- walks

    /** Looks at all pairs ahead of the first walk: a row with such a pair is no walks at all. */
    private int refusalOfPairs(Sheet row, int i, int n) {
        for (int k = 0; k < n; k++) {
            if (!snow.has(row.at(i + 2 * k))) {
                return UNKNOWN;
            }
            if (!isDigit(row.at(i + 2 * k + 1))) {
                return OUTSIDE;
            }
        }
        return 0;
    }

    /** All steps together, or PLACE_BASE less the first wrong; leaves all on trial as they stand then. */
    private int walkOnTrial(Sheet row, int i, int n) {
        trial.becomeLike(snow);
        int steps = 0;
        for (int k = 0; k < n; k++) {
            int a = row.at(i + 2 * k);
            int foot = row.at(i + 2 * k + 1);
            if (!trial.has(a) || trial.isAnotherOn(foot, a)) {
                return PLACE_BASE - k;
            }
            steps += Math.abs(foot - trial.foot[a]);
            trial.foot[a] = foot;
        }
        return steps;
    }

    private int behindWalks(int sun, int walked, int what) {
        if (what == 1) {
            return walked < 0 ? PLACE_BASE - walked : NONE;
        }
        if (walked < 0) {
            return walked;
        }
        switch (what) {
            case 0:
                return countedOn(trial, sun, trial.everyone());
            case 2:
                return walked;
            case 3:
                return trial.hiddenSet(sun);
            default:
                return trial.has(what - 10) ? trial.foot[what - 10] : NONE;
        }
    }

    // ---- telling

    private int tellAsStander(int a) {
        leaveInTrace(1);
        return snow.has(a) ? snow.height[a] : 0;
    }

    private int tellAsRider(int a) {
        leaveInTrace(2);
        return tellAsStander(a) + 100;
    }

    private int tellAsPole(int a) {
        leaveInTrace(3);
        int asRider = tellAsRider(a);
        return asRider + tellAsStander(a);
    }

    private void leaveInTrace(int body) {
        traced = 31 * traced + body;
    }

    /** Who stands where and how high, by which span and tower; without standers there is no field. */
    private static final class Snow {
        final int[] kind = new int[MOST_STANDERS];
        final int[] foot = new int[MOST_STANDERS];
        final int[] height = new int[MOST_STANDERS];
        int standers;
        int span;
        int tower;

        boolean isLaid() {
            return standers > 0;
        }

        boolean has(int a) {
            return a >= 0 && a < standers && a < MOST_STANDERS;
        }

        int everyone() {
            return (1 << standers) - 1;
        }

        void becomeLike(Snow other) {
            for (int a = 0; a < MOST_STANDERS; a++) {
                kind[a] = other.kind[a];
                foot[a] = other.foot[a];
                height[a] = other.height[a];
            }
            standers = other.standers;
            span = other.span;
            tower = other.tower;
        }

        int shadeOf(int a, int sun) {
            if (!has(a)) {
                return 0;
            }
            int plain = height[a] * sun;
            switch (kind[a]) {
                case RIDER:
                    return Math.max(plain - 1, 0);
                case POLE:
                    return plain / 2;
                default:
                    return plain;
            }
        }

        /** The tower hides whoever is on a foot ahead of this one. */
        int firstLitFoot(int sun) {
            return tower * sun;
        }

        int hiddenSet(int sun) {
            int set = 0;
            for (int a = 0; a < MOST_STANDERS; a++) {
                if (has(a) && foot[a] < firstLitFoot(sun)) {
                    set |= 1 << a;
                }
            }
            return set;
        }

        boolean isAnotherOn(int where, int than) {
            for (int a = 0; a < MOST_STANDERS; a++) {
                if (has(a) && a != than && foot[a] == where) {
                    return true;
                }
            }
            return false;
        }

        /** As a set, of those who are in the set out and not hidden. */
        long darkFeet(int sun, int out) {
            int seen = out & ~hiddenSet(sun);
            long dark = 0;
            for (int a = 0; a < MOST_STANDERS; a++) {
                if (has(a) && (seen >> a & 1) != 0) {
                    long feet = (1L << (shadeOf(a, sun) + 1)) - 1;
                    dark |= feet << foot[a];
                }
            }
            return dark;
        }
    }

    /** What dark feet make together: held in fields, since one look along the feet tells it all. */
    private static final class Shadows {
        int runCount;
        int longest;
        int counted;
        int need;

        void measure(long dark, int span) {
            runCount = 0;
            longest = 0;
            counted = 0;
            int length = 0;
            int foot = 0;
            for (; foot < FEET && dark >> foot != 0; foot++) {
                if ((dark >> foot & 1) != 0) {
                    length++;
                } else {
                    closeRun(length, span);
                    length = 0;
                }
            }
            closeRun(length, span);
            need = foot;
        }

        private void closeRun(int length, int span) {
            if (length < 1 || span < 1) {
                return;
            }
            runCount++;
            longest = Math.max(longest, length);
            counted += (length + span - 1) / span;
        }
    }

    private static final class Readings {
        final int[] sun = new int[MOST_READINGS];
        final int[] counted = new int[MOST_READINGS];
        int count;

        boolean note(int atSun, int v) {
            if (count < 0 || count >= MOST_READINGS) {
                return false;
            }
            sun[count] = atSun;
            counted[count] = v;
            count++;
            return true;
        }
    }

    /** Its cells are ints whatever its lane is: what comes to them is cut as it comes. */
    private static final class Sheet {
        final int[] cells = new int[MOST_CELLS];
        boolean hasRow;
        int lane;
        int size;

        void renew(int ofLane, int n) {
            hasRow = true;
            lane = ofLane;
            size = n;
            for (int i = 0; i < MOST_CELLS; i++) {
                cells[i] = 0;
            }
        }

        void empty() {
            hasRow = false;
            size = 0;
        }

        /** Taken as a row of a lane: that there is nothing is no CAST. */
        int faultAs(int ofLane) {
            if (!hasRow) {
                return NULL;
            }
            return lane == ofLane ? 0 : CAST;
        }

        boolean hasCell(int i) {
            return i >= 0 && i < size && i < MOST_CELLS;
        }

        boolean holds(int i, int n) {
            return i >= 0 && i <= size && n >= 0 && n <= size - i;
        }

        int at(int i) {
            return hasCell(i) ? cells[i] : 0;
        }

        int cutToLane(int v) {
            switch (lane) {
                case BYTES:
                    return (byte) v;
                case SHORTS:
                    return (short) v;
                default:
                    return v;
            }
        }
    }
}

/** Objects whose state is known, a fault to leave on them, and all that their calls tell of their state. */
final class World {
    /** SHEETS 0 to 2 have rows of all LANES, SHEET 3 has nothing. */
    static final int TEXT = 0, PAIRS = 1, SHORTS = 2, NOTHING = 3;
    static final int TEXT_CELLS = 7, PAIRS_CELLS = 12, SHORTS_CELLS = 5;
    static final int LAID = 0, BARE = 1, READ_FULL = 2;
    static final int STANDERS = 3, READINGS = 2;

    private World() {
    }

    static SnowCensus of(int which) {
        SnowCensus x = bare();
        if (which == BARE) {
            return x;
        }
        lay(x, "f41;s32;r55;p74");
        x.tell(2);
        // They are all so: one that became another would leave less of what follows.
        int[] census = {2, 3, 5};
        for (int k = 0; k < (which == READ_FULL ? 8 : READINGS); k++) {
            x.reading(1 + k % 3, census[k % 3]);
        }
        return x;
    }

    /** The pairs of SHEET 1: two that are right, no STANDER, no FOOT, one that is wrong, one that is right. */
    private static SnowCensus bare() {
        SnowCensus x = new SnowCensus();
        Check.write(x, TEXT, 0, Check.codes("f92;p18"));
        Check.write(x, PAIRS, 2, 0, 3, 1, 4, 3, 0, 0, 10, 0, 5, 1, 9);
        Check.write(x, SHORTS, 1, 32767, -1, 5, 0, -32768);
        return x;
    }

    private static void lay(SnowCensus x, String text) {
        Check.write(x, NOTHING, 0, Check.codes(text));
        x.field(NOTHING, 0, 0, text.length());
        x.lose(NOTHING);
    }

    /** Lets fault() tell a fault (0: none) and changes nothing else. */
    static void leaveFault(SnowCensus x, int fault) {
        switch (fault) {
            case 1: x.put(NOTHING, 0, 0); break;
            case 2: x.cell(TEXT, 0, 1); break;
            case 3: x.put(TEXT, -1, 0); break;
            case 4: x.sheet(TEXT, 0, -1); break;
            default: x.cell(TEXT, 0, 0); break;
        }
    }

    /** All but fault(); of no use behind it, since READINGS are taken back to tell what they are. */
    static String told(SnowCensus x) {
        StringBuilder told = new StringBuilder("many");
        for (int what = 0; what <= 3; what++) {
            told.append(' ').append(x.many(what));
        }
        told.append("; trace ").append(x.trace()).append("; standers");
        for (int a = 0; a < x.many(0); a++) {
            told.append(" (").append(x.ofStander(a, 0)).append(' ').append(x.ofStander(a, 1));
            told.append(' ').append(x.ofStander(a, 2)).append(')');
        }
        for (int k = 0; k < 4; k++) {
            told.append("; sheet ").append(k).append(sheetTold(x, k));
        }
        told.append("; readings").append(followsTold(x));
        while (x.back(1) >= 0) {
            told.append(followsTold(x));
        }
        return told.toString();
    }

    private static String sheetTold(SnowCensus x, int k) {
        for (int lane = 0; lane <= 2; lane++) {
            long cell = x.cell(k, 0, lane);
            if (x.fault() != 1 && x.fault() != 2) {
                StringBuilder told = new StringBuilder(" of lane ").append(lane);
                for (int i = 1; cell != Check.LOST; i++) {
                    told.append(' ').append(cell);
                    cell = x.cell(k, i, lane);
                }
                return told.toString();
            }
        }
        return x.fault() == 1 ? " nothing" : " of no lane";
    }

    private static String followsTold(SnowCensus x) {
        StringBuilder told = new StringBuilder(" ").append(x.spans());
        for (int a = 0; a < x.many(0); a++) {
            told.append('/').append(x.heights(a)).append('/').append(x.kinds(a));
        }
        return told.toString();
    }
}

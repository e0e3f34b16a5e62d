/** Promises 15 to 20: reading, back, heights, kinds, spans, odds. */
final class ReadingTest {
    private static final Check check = new Check("ReadingTest");

    public static void main(String[] args) {
        readingsAndBack();
        readingsRefused();
        heights();
        kinds();
        spans();
        whatFollowsIsRefused();
        odds();
        oddsRefused();
        check.end();
    }

    private static void readingsAndBack() {
        SnowCensus x = Check.of("f10;s01");
        for (int k = 0; k < 8; k++) {
            check.due("reading " + k, x.reading(1 + k % 3, 0 + k), k);
            check.due("many(3)", x.many(3), k + 1);
        }
        check.due("a ninth", x.reading(1, 0), Check.FULL);
        check.due("OUTSIDE ahead of FULL", x.reading(4, 0), Check.OUTSIDE);
        check.due("OUTSIDE ahead of FULL", x.reading(1, 100), Check.OUTSIDE);
        check.due("still 8", x.many(3), 8);
        check.due("back(9)", x.back(9), Check.OUTSIDE);
        check.due("back(-1)", x.back(-1), Check.OUTSIDE);
        check.due("back(0)", x.back(0), 8);
        check.due("back(3)", x.back(3), 5);
        check.due("the next number", x.reading(1, 2), 5);
        check.due("back(6)", x.back(6), 0);
        check.due("back(1)", x.back(1), Check.OUTSIDE);
        check.due("back(0)", x.back(0), 0);
        check.due("v 99", x.reading(3, 99), 0);
        check.due("v 0", x.reading(3, 0), 1);
        for (int wild : Check.WILD) {
            check.due("back " + wild, x.back(wild), Check.OUTSIDE);
        }
        check.due("two are left", x.many(3), 2);
    }

    private static void readingsRefused() {
        SnowCensus none = new SnowCensus();
        check.due("no field", none.reading(1, 0), Check.STATE);
        check.due("sun ahead of no field", none.reading(0, 0), Check.OUTSIDE);
        check.due("v ahead of no field", none.reading(1, -1), Check.OUTSIDE);
        check.due("back(0) without a field", none.back(0), 0);
        check.due("back(1) without a field", none.back(1), Check.OUTSIDE);
        SnowCensus x = Check.of("f10;s01");
        for (int wild : Check.WILD) {
            check.due("sun " + wild, x.reading(wild, 0), Check.OUTSIDE);
            check.due("v " + wild, x.reading(1, wild), Check.OUTSIDE);
        }
        check.due("none was taken", x.many(3), 0);
    }

    private static void heights() {
        SnowCensus x = Check.of("f10;s01;s90");
        check.due("all without readings", x.heights(0), 1023);
        x.reading(1, 5);
        check.due("0 .. 3 and 9", x.heights(0), 1 << 3);
        check.due("0 1, 9 .. 11", x.heights(1), 1 << 2);
        x.reading(2, 8);
        check.due("0 .. 6 and 9", x.heights(0), 1 << 3);
        check.due("0 1 2, 9 .. 13", x.heights(1), 1 << 2);
        x.reading(3, 8);
        check.due("not at 3", x.heights(0), 0);
        check.due("not at 3", x.heights(1), 0);
        check.due("taken back", x.back(1), 2);
        check.due("as it was", x.heights(0), 1 << 3);
        check.due("its height is as it was", x.ofStander(0, 2), 1);
        SnowCensus wide = Check.of("f30;s05");
        wide.reading(1, 3);
        check.due("7 .. 9 feet", wide.heights(0), 1 << 6 | 1 << 7 | 1 << 8);
        wide.build(1);
        check.due("hidden: never", wide.heights(0), 0);
        wide.back(1);
        wide.reading(1, 0);
        check.due("hidden: always", wide.heights(0), 1023);
        wide.walk(0, 1);
        check.due("as all stand now", wide.heights(0), 0);
    }

    private static void kinds() {
        SnowCensus x = Check.of("f10;s02");
        check.due("all without readings", x.kinds(0), 7);
        x.reading(1, 3);
        check.due("a stander", x.kinds(0), 1);
        x.back(1);
        x.reading(1, 2);
        check.due("a rider or a pole", x.kinds(0), 6);
        x.reading(3, 6);
        check.due("a rider", x.kinds(0), 2);
        x.back(1);
        x.reading(3, 4);
        check.due("a pole", x.kinds(0), 4);
        x.reading(2, 99);
        check.due("none", x.kinds(0), 0);
        check.due("its kind is as it was", x.ofStander(0, 0), 0);
        SnowCensus y = Check.of("f10;s90;p04");
        y.reading(1, 6);
        check.due("of the second", y.kinds(1), 1);
        check.due("of the first", y.kinds(0), 0);
    }

    private static void spans() {
        SnowCensus x = Check.of("f10;s05");
        check.due("1 .. 9 without readings", x.spans(), 1022);
        x.reading(1, 1);
        check.due("6 .. 9", x.spans(), 1 << 6 | 1 << 7 | 1 << 8 | 1 << 9);
        x.reading(2, 2);
        check.due("11 feet by two", x.spans(), 1 << 6 | 1 << 7 | 1 << 8 | 1 << 9);
        x.reading(3, 2);
        check.due("16 feet by two", x.spans(), 1 << 8 | 1 << 9);
        x.back(3);
        x.reading(1, 6);
        check.due("1", x.spans(), 2);
        x.back(1);
        x.reading(1, 5);
        check.due("none", x.spans(), 0);
        check.due("the span is as it was", x.many(1), 1);
    }

    private static void whatFollowsIsRefused() {
        SnowCensus none = new SnowCensus();
        SnowCensus x = Check.of("f10;s05");
        check.due("no field", none.spans(), Check.STATE);
        check.due("no stander", none.heights(0), Check.UNKNOWN);
        check.due("no stander", none.kinds(0), Check.UNKNOWN);
        check.due("no stander 1", x.heights(1), Check.UNKNOWN);
        check.due("no stander 1", x.kinds(1), Check.UNKNOWN);
        for (int wild : Check.WILD) {
            check.due("heights of " + wild, x.heights(wild), Check.UNKNOWN);
            check.due("kinds of " + wild, x.kinds(wild), Check.UNKNOWN);
        }
    }

    private static void oddsDue(SnowCensus x, int sun, int v, int upper, int lower) {
        check.due("odds(" + sun + ", " + v + ", 0)", x.odds(sun, v, 0), upper);
        check.due("odds(" + sun + ", " + v + ", 1)", x.odds(sun, v, 1), lower);
    }

    private static void odds() {
        SnowCensus x = Check.of("f10;s00;s20;s40;s60;s80");
        int[] upper = {1, 5, 5, 5, 5, 1};
        int[] lower = {32, 32, 16, 16, 32, 32};
        for (int v = 0; v <= 5; v++) {
            oddsDue(x, 1, v, upper[v], lower[v]);
        }
        oddsDue(x, 1, 6, 0, 1);
        oddsDue(x, 1, 99, 0, 1);
        x.build(9);
        oddsDue(x, 1, 0, 1, 1);
        oddsDue(x, 1, 1, 0, 1);
        x.build(8);
        oddsDue(x, 1, 1, 1, 2);
        oddsDue(Check.of("f10;s00"), 1, 0, 1, 2);
        oddsDue(Check.of("f10;s00;s00"), 3, 1, 3, 4);
        x.reading(1, 99);
        oddsDue(x, 1, 1, 1, 2);
    }

    private static void oddsRefused() {
        SnowCensus none = new SnowCensus();
        check.due("no field", none.odds(1, 0, 0), Check.LOST);
        SnowCensus x = Check.of("f10;s00");
        for (int bad : new int[] {-1, 0, 4, 100, Integer.MAX_VALUE, Integer.MIN_VALUE}) {
            check.due("sun " + bad, x.odds(bad, 0, 0), Check.LOST);
        }
        for (int bad : new int[] {-1, 100, Integer.MAX_VALUE, Integer.MIN_VALUE}) {
            check.due("v " + bad, x.odds(1, bad, 0), Check.LOST);
        }
        for (int bad : new int[] {-1, 2, Integer.MAX_VALUE, Integer.MIN_VALUE}) {
            check.due("which " + bad, x.odds(1, 0, bad), Check.LOST);
        }
        x.put(0, 99, 0);
        x.odds(9, 9, 9);
        check.due("odds names no faults", x.fault(), 3);
    }
}

/** Promises 8 to 12: hidden, census, runs, fair, walks. */
final class CensusTest {
    private static final Check check = new Check("CensusTest");

    public static void main(String[] args) {
        hidden();
        censusAndRuns();
        farthestShadow();
        refusals();
        fair();
        walksThatAreRight();
        walksThatAreWrong();
        walksRefused();
        check.end();
    }

    private static void hidden() {
        SnowCensus x = Check.of("f31;s00;s10;s20;s30;s90");
        check.due("hidden(1)", x.hidden(1), 1);
        check.due("hidden(2)", x.hidden(2), 3);
        check.due("hidden(3)", x.hidden(3), 7);
        x.build(0);
        check.due("no tower", x.hidden(3), 0);
        x.build(3);
        check.due("tower 3 at 3: feet 0 .. 8", x.hidden(3), 15);
        x.build(9);
        check.due("feet 0 .. 8", x.hidden(1), 15);
        check.due("all feet", x.hidden(2), 31);
        x.walk(4, 0);
        x.walk(0, 9);
        check.due("as they stand now", x.hidden(1), 30);
    }

    private static void row(SnowCensus x, int sun, long census, long runs, long longest, long need) {
        check.due("census(" + sun + ")", x.census(sun), census);
        check.due("runs(" + sun + ", 0)", x.runs(sun, 0), runs);
        check.due("runs(" + sun + ", 1)", x.runs(sun, 1), longest);
        check.due("runs(" + sun + ", 2)", x.runs(sun, 2), need);
    }

    private static void censusAndRuns() {
        SnowCensus x = Check.of("f20;s01;s41;s90");
        row(x, 1, 3, 3, 2, 10);  // 0 1, 4 5, 9
        row(x, 2, 5, 3, 3, 10);  // 0 1 2, 4 5 6, 9
        row(x, 3, 5, 2, 8, 10);  // 0 .. 7, 9
        x.build(1);
        row(x, 1, 2, 2, 2, 10);  // 4 5, 9: the first is hidden, its shadow too
        x.build(4);
        row(x, 1, 2, 2, 2, 10);
        x.build(5);
        row(x, 1, 1, 1, 1, 10);
        x.build(9);
        row(x, 2, 0, 0, 0, 0);
        SnowCensus y = Check.of("f30;s01;s21;p52;r71");
        row(y, 1, 3, 2, 4, 8);   // 0 .. 3 (side by side is one run), 5 6 7
        row(y, 2, 3, 1, 9, 9);   // 0 1 2, 2 3 4, 5 6 7, 7 8
        SnowCensus same = Check.of("f90;s55;s55;s55;s50;s52");
        row(same, 1, 1, 1, 6, 11);
        for (int span = 1; span <= 9; span++) {
            SnowCensus z = Check.of("f" + span + "0;s09");
            row(z, 1, (10 + span - 1) / span, 1, 10, 10);
        }
    }

    private static void farthestShadow() {
        SnowCensus x = Check.of("f10;s99;s00");
        row(x, 3, 29, 2, 28, 37);
        x.walk(1, 8);
        row(x, 3, 29, 1, 29, 37);
    }

    private static void refusals() {
        SnowCensus none = new SnowCensus();
        SnowCensus x = Check.of("f20;s01");
        check.due("no field", none.hidden(1), Check.STATE);
        check.due("no field", none.census(1), Check.STATE);
        check.due("no field", none.runs(1, 0), Check.STATE);
        check.due("no field", none.fair(), Check.STATE);
        check.due("sun ahead of no field", none.hidden(0), Check.OUTSIDE);
        check.due("sun ahead of no field", none.census(4), Check.OUTSIDE);
        check.due("what ahead of no field", none.runs(1, 3), Check.OUTSIDE);
        check.due("sun ahead of no field", none.runs(0, 0), Check.OUTSIDE);
        check.due("sun 0", x.census(0), Check.OUTSIDE);
        check.due("sun 4", x.census(4), Check.OUTSIDE);
        check.due("sun 0", x.hidden(0), Check.OUTSIDE);
        check.due("sun 4", x.hidden(4), Check.OUTSIDE);
        check.due("sun 0", x.runs(0, 0), Check.OUTSIDE);
        check.due("sun 4", x.runs(4, 0), Check.OUTSIDE);
        check.due("what -1", x.runs(1, -1), Check.OUTSIDE);
        check.due("what 3", x.runs(1, 3), Check.OUTSIDE);
        for (int wild : Check.WILD) {
            check.due("sun", x.hidden(wild), Check.OUTSIDE);
            check.due("sun", x.census(wild), Check.OUTSIDE);
            check.due("sun", x.runs(wild, 0), Check.OUTSIDE);
            check.due("what", x.runs(1, wild), Check.OUTSIDE);
        }
    }

    private static void fair() {
        check.due("all alike: the least sun", Check.of("f10;s00;s20").fair(), 1);
        // census 2, 3, 4 of 1: off 1, 2, 3
        check.due("above", Check.of("f10;s01").fair(), 1);
        // census 2, 3, 4 of 3 (all on one foot)
        check.due("just so many", Check.of("f10;s01;s00;s00").fair(), 2);
        // census 2, 3, 4 of 4
        check.due("below, then just", Check.of("f10;s01;s00;s00;s00").fair(), 3);
        // census 2, 4, 6 of 3: off 1, 1, 3
        check.due("one below, one above: the least sun", Check.of("f10;r02;s00;s00").fair(), 1);
        // all hidden at 2 and 3, off 1; at 1 it is 3, off 2
        check.due("hidden by the tower", Check.of("f15;s92").fair(), 2);
    }

    private static int[] asked(SnowCensus x, int sun, int n) {
        int[] whats = {0, 1, 2, 3, 10, 11, 12, 13, 14};
        int[] got = new int[whats.length];
        for (int k = 0; k < whats.length; k++) {
            got[k] = x.walks(sun, 1, 0, 0, n, whats[k]);
        }
        return got;
    }

    private static void walksDue(SnowCensus x, int sun, int[] pairs, int... want) {
        Check.write(x, 1, 0, pairs);
        int[] got = asked(x, sun, pairs.length / 2);
        for (int k = 0; k < want.length; k++) {
            check.due("walks " + java.util.Arrays.toString(pairs) + " [" + k + "]", got[k], want[k]);
        }
        check.due("fault()", x.fault(), 0);
    }

    private static void walksThatAreRight() {
        SnowCensus x = Check.of("f21;s02;s51;p53");
        walksDue(x, 1, new int[] {}, 1, -9, 0, 1, 0, 5, 5, -9, -9);
        walksDue(x, 1, new int[] {0, 9}, 3, -9, 9, 0, 9, 5, 5, -9, -9);
        walksDue(x, 1, new int[] {0, 0}, 1, -9, 0, 1, 0, 5, 5, -9, -9);
        walksDue(x, 2, new int[] {1, 6, 2, 1, 1, 5}, 2, -9, 6, 5, 0, 5, 1, -9, -9);
        walksDue(x, 1, new int[] {0, 4, 0, 1, 0, 0}, 1, -9, 8, 1, 0, 5, 5, -9, -9);
        walksDue(x, 1, new int[] {2, 6, 1, 5}, 2, -9, 1, 1, 0, 5, 6, -9, -9);
        check.due("nothing is changed", x.ofStander(0, 1), 0);
        check.due("nothing is changed", x.ofStander(2, 1), 5);
        Check.write(x, 1, 0, new int[40]);
        check.due("20 walks", x.walks(1, 1, 0, 0, 20, 2), 0);
        Check.write(x, 2, 2, 77, 0, 9, 77);
        check.due("from 1 on, of ints", x.walks(1, 2, 2, 1, 1, 2), 9);
        check.due("none, at the end", x.walks(1, 2, 2, 4, 0, 2), 0);
    }

    private static void walksThatAreWrong() {
        SnowCensus x = Check.of("f21;s02;s51;p53");
        walksDue(x, 1, new int[] {0, 5}, -100, 0, -100, -100, -100, -100, -100, -100, -100);
        walksDue(x, 1, new int[] {0, 1, 1, 1}, -101, 1, -101, -101, -101, -101, -101, -101, -101);
        walksDue(x, 1, new int[] {0, 1, 1, 0, 2, 1, 0, 0}, -102, 2, -102, -102, -102);
        walksDue(x, 1, new int[] {1, 5}, -100, 0, -100, -100, -100);
        walksDue(x, 1, new int[] {1, 0}, -100, 0, -100, -100, -100);
        check.due("nothing is changed", x.ofStander(0, 1), 0);
    }

    private static void walksRefused() {
        SnowCensus none = new SnowCensus();
        check.due("NULL ahead of no field", none.walks(1, 0, 0, 0, 0, 0), Check.NULL);
        check.due("fault()", none.fault(), 1);
        none.sheet(0, 0, 2);
        check.due("INDEX ahead of no field", none.walks(1, 0, 0, 1, 1, 0), Check.INDEX);
        check.due("CAST ahead of no field", none.walks(1, 0, 1, 0, 1, 0), Check.CAST);
        check.due("no field ahead of pairs", none.walks(1, 0, 0, 0, 1, 0), Check.STATE);
        check.due("fault()", none.fault(), 0);
        SnowCensus x = Check.of("f21;s02;s51");
        Check.write(x, 1, 1, 0, 3, 1, 4);
        check.due("sheet ahead of sun", x.walks(0, 4, 9, 0, 21, 4), Check.UNKNOWN);
        check.due("sheet -1", x.walks(1, -1, 1, 0, 1, 0), Check.UNKNOWN);
        for (int bad : new int[] {0, 4, -1}) {
            check.due("sun " + bad, x.walks(bad, 2, 1, 0, 1, 0), Check.OUTSIDE);
        }
        for (int bad : new int[] {-1, 3}) {
            check.due("lane " + bad, x.walks(1, 1, bad, 0, 1, 0), Check.OUTSIDE);
        }
        for (int bad : new int[] {-1, 21, Integer.MIN_VALUE, Integer.MAX_VALUE, 1 << 30, 1 << 31}) {
            check.due("n " + bad, x.walks(1, 1, 1, 0, bad, 0), Check.OUTSIDE);
        }
        for (int bad : new int[] {-1, 4, 9, 15, Integer.MAX_VALUE}) {
            check.due("what " + bad, x.walks(1, 1, 1, 0, 1, bad), Check.OUTSIDE);
        }
        check.due("CAST ahead of INDEX", x.walks(1, 1, 0, 9, 1, 0), Check.CAST);
        check.due("fault()", x.fault(), 2);
        check.due("nothing is no CAST", x.walks(1, 2, 0, 9, 1, 0), Check.NULL);
        check.due("fault()", x.fault(), 1);
        check.due("one cell beyond", x.walks(1, 1, 1, 1, 2, 0), Check.INDEX);
        check.due("fault()", x.fault(), 3);
        check.due("none from 5 on", x.walks(1, 1, 1, 5, 0, 0), Check.INDEX);
        check.due("none from -1 on", x.walks(1, 1, 1, -1, 0, 0), Check.INDEX);
        check.due("none from 4 on", x.walks(1, 1, 1, 4, 0, 1), Check.NONE);
        for (int wild : Check.WILD) {
            check.due("from " + wild + " on", x.walks(1, 1, 1, wild, 2, 0), Check.INDEX);
        }
        pairsRefused(x);
    }

    private static void pairsRefused(SnowCensus x) {
        int[][] rows = {{2, 3}, {-1, 3}, {0, 10}, {0, -1}, {2, 10}, {0, 3, 2, 3}, {0, 3, 1, 10},
            {0, 10, 2, 3}, {0, 5, 2, 3}, {0, 5, 1, 10}};
        int[] want = {-1, -1, -2, -2, -1, -1, -2, -2, -1, -2};
        for (int k = 0; k < rows.length; k++) {
            Check.write(x, 1, 1, rows[k]);
            for (int what = 0; what <= 3; what++) {
                check.due("pairs " + java.util.Arrays.toString(rows[k]),
                    x.walks(1, 1, 1, 0, rows[k].length / 2, what), want[k]);
            }
            check.due("fault()", x.fault(), 0);
        }
        check.due("nothing is changed", x.ofStander(0, 1), 0);
    }
}

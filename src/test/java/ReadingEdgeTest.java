/** The edges of promises 15 to 20: reading, back, heights, kinds, spans, odds. */
final class ReadingEdgeTest {
    private static final Check check = new Check("ReadingEdgeTest");

    public static void main(String[] args) {
        eightAtMost();
        roomAgain();
        numbersOfReading();
        backFromEach();
        theLastGo();
        heightsOfEdges();
        heightsOfKinds();
        kindsOfEdges();
        spansOfEdges();
        allReadings();
        aloneInPlace();
        byHowTheyAreNow();
        whoIsAsked();
        whatFollowsChangesNothing();
        shares();
        numbersOfOdds();
        check.end();
    }

    private static void eightAtMost() {
        check.by("READINGS, 8 at most, numbered by how many there are");
        SnowCensus x = Check.of("f10;s00");
        for (int k = 0; k < 8; k++) {
            check.due("many(3)", x.many(3), k);
            check.due("the same once more", x.reading(1, 1), k);
        }
        for (int k = 0; k < 2; k++) {
            check.due("a ninth", x.reading(1, 2), Check.FULL);
            check.due("many(3)", x.many(3), 8);
            check.due("it left nothing", x.heights(0), 1);
        }
        check.by("STATE: there is no FIELD; FULL.");
        check.due("no sun", x.reading(0, 1), Check.OUTSIDE);
        check.due("no count", x.reading(1, 100), Check.OUTSIDE);
    }

    private static void roomAgain() {
        check.by("FULL");
        SnowCensus x = World.of(World.READ_FULL);
        check.due("full", x.reading(1, 0), Check.FULL);
        check.due("none taken back", x.back(0), 8);
        check.due("still full", x.reading(1, 0), Check.FULL);
        check.due("one taken back", x.back(1), 7);
        check.due("room for one", x.reading(1, 0), 7);
        check.due("full again", x.reading(1, 0), Check.FULL);
        check.due("all taken back", x.back(8), 0);
        check.due("room for all", x.reading(1, 0), 0);
        SnowCensus y = World.of(World.READ_FULL);
        check.due("a TEXT", y.field(World.TEXT, 0, 0, 7), 1);
        check.due("makes room", y.reading(1, 0), 0);
    }

    private static void numbersOfReading() {
        check.by("OUTSIDE: sun (1 .. 3), v (0 .. 99)");
        SnowCensus none = new SnowCensus();
        for (int sun = 0; sun <= 4; sun++) {
            for (int v : new int[] {-1, 0, 1, 98, 99, 100}) {
                SnowCensus x = Check.of("f10;s00");
                boolean isRight = sun >= 1 && sun <= 3 && v >= 0 && v <= 99;
                String call = "reading(" + sun + ", " + v + ")";
                check.due(call, x.reading(sun, v), isRight ? 0 : Check.OUTSIDE);
                check.due("many(3) behind " + call, x.many(3), isRight ? 1 : 0);
                check.due(call + " without a field", none.reading(sun, v), isRight ? Check.STATE : Check.OUTSIDE);
            }
        }
        check.due("many(3) without a field", none.many(3), 0);
    }

    private static void backFromEach() {
        check.by("The last k READINGS (0 .. as many as there are) are taken back: how many are left.");
        for (int have = 0; have <= 8; have++) {
            for (int k = -1; k <= 9; k++) {
                SnowCensus x = Check.of("f10;s00");
                for (int r = 0; r < have; r++) {
                    x.reading(1, 1);
                }
                boolean isRight = k >= 0 && k <= have;
                check.due("back(" + k + ") of " + have, x.back(k), isRight ? have - k : Check.OUTSIDE);
                check.due("many(3)", x.many(3), isRight ? have - k : have);
            }
        }
        SnowCensus none = new SnowCensus();
        check.due("back(0) without a field", none.back(0), 0);
        check.due("back(1) without a field", none.back(1), Check.OUTSIDE);
        check.due("back(-1) without a field", none.back(-1), Check.OUTSIDE);
    }

    private static void theLastGo() {
        check.by("The last k READINGS");
        SnowCensus x = Check.of("f30;s00");
        x.reading(1, 3);
        x.reading(2, 5);
        x.reading(3, 8);
        check.due("7 .. 9, 13 .. 15, 22 .. 24 feet", x.heights(0), 1 << 7);
        check.due("the third goes", x.back(1), 2);
        check.due("7 .. 9, 13 .. 15 feet", x.heights(0), 1 << 6 | 1 << 7);
        check.due("the second goes", x.back(1), 1);
        check.due("7 .. 9 feet", x.heights(0), 1 << 6 | 1 << 7 | 1 << 8);
        check.due("the first goes", x.back(1), 0);
        check.due("all", x.heights(0), 1023);
        check.due("another in its place", x.reading(1, 1), 0);
        check.due("1 .. 3 feet", x.heights(0), 7);
    }

    private static void heightsDue(String text, int sun, int v, int want) {
        SnowCensus x = Check.of(text);
        x.reading(sun, v);
        check.due("heights by " + v + " at " + sun, x.heights(0), want);
    }

    private static void heightsOfEdges() {
        check.by("HEIGHTS of a STANDER: 0 .. 9, as a set");
        check.due("all", Check.of("f10;s05").heights(0), 1023);
        heightsDue("f10;s05", 1, 0, 0);
        heightsDue("f10;s05", 1, 1, 1);
        heightsDue("f10;s05", 1, 2, 2);
        heightsDue("f10;s05", 1, 9, 256);
        heightsDue("f10;s05", 1, 10, 512);
        heightsDue("f10;s05", 1, 11, 0);
        heightsDue("f10;s05", 3, 28, 512);
        heightsDue("f10;s05", 3, 27, 0);
        heightsDue("f10;s05", 3, 99, 0);
        heightsDue("f11;s05", 1, 0, 1023);
        heightsDue("f11;s05", 1, 1, 0);
        heightsDue("f90;s05", 1, 1, 511);
        heightsDue("f90;s05", 1, 2, 512);
    }

    private static void heightsOfKinds() {
        check.by("of a RIDER 1 less (0 at least); of a POLE half");
        heightsDue("f10;r05", 1, 1, 3);
        heightsDue("f10;r05", 1, 9, 512);
        heightsDue("f10;r05", 1, 10, 0);
        heightsDue("f10;r05", 2, 1, 1);
        heightsDue("f10;p05", 1, 1, 3);
        heightsDue("f10;p05", 1, 5, 256 | 512);
        heightsDue("f10;p05", 1, 6, 0);
        heightsDue("f10;p05", 3, 14, 512);
    }

    private static void kindsDue(String text, int sun, int v, int want) {
        SnowCensus x = Check.of(text);
        x.reading(sun, v);
        check.due("kinds by " + v + " at " + sun, x.kinds(0), want);
    }

    private static void kindsOfEdges() {
        check.by("KINDS of a STANDER: 0 .. 2, as a set");
        for (char letter : new char[] {'s', 'r', 'p'}) {
            check.due("all", Check.of("f10;" + letter + "05").kinds(0), 7);
            kindsDue("f10;" + letter + "00", 3, 1, 7);
            kindsDue("f10;" + letter + "00", 3, 0, 0);
            kindsDue("f10;" + letter + "01", 1, 2, 1);
            kindsDue("f10;" + letter + "01", 1, 1, 6);
            kindsDue("f10;" + letter + "09", 3, 28, 1);
            kindsDue("f10;" + letter + "09", 3, 27, 2);
            kindsDue("f10;" + letter + "09", 3, 14, 4);
            kindsDue("f10;" + letter + "09", 3, 13, 0);
            kindsDue("f11;" + letter + "09", 3, 0, 7);
        }
    }

    private static void spansDue(String text, int v, int want) {
        SnowCensus x = Check.of(text);
        x.reading(1, v);
        check.due("spans by " + v, x.spans(), want);
    }

    private static void spansOfEdges() {
        check.by("SPANS: 1 .. 9, as a set");
        check.due("all", Check.of("f10;s05").spans(), 1022);
        spansDue("f10;s08", 9, 2);
        spansDue("f50;s08", 1, 512);
        spansDue("f50;s08", 8, 0);
        spansDue("f50;s08", 2, 1 << 5 | 1 << 6 | 1 << 7 | 1 << 8);
        spansDue("f50;s08", 0, 0);
        spansDue("f50;s00", 1, 1022);
        spansDue("f51;s00", 0, 1022);
        spansDue("f50;s09", 1, 0);
        SnowCensus none = new SnowCensus();
        check.due("no FIELD", none.spans(), Check.STATE);
    }

    private static void allReadings() {
        check.by("by which all READINGS are so");
        for (int wrong = 0; wrong < 8; wrong++) {
            SnowCensus x = Check.of("f10;s00");
            for (int k = 0; k < 8; k++) {
                x.reading(1, k == wrong ? 99 : 1);
            }
            check.due("heights, but for " + wrong, x.heights(0), 0);
            check.due("kinds, but for " + wrong, x.kinds(0), 0);
            check.due("spans, but for " + wrong, x.spans(), 0);
            x.back(8 - wrong);
            check.due("heights ahead of it", x.heights(0), wrong == 0 ? 1023 : 1);
            check.due("kinds ahead of it", x.kinds(0), 7);
            check.due("spans ahead of it", x.spans(), 1022);
        }
        SnowCensus x = Check.of("f10;s02");
        x.reading(1, 3);
        x.reading(2, 5);
        x.reading(3, 7);
        check.due("so at each sun", x.heights(0), 4);
        x.reading(3, 5);
        check.due("so at two suns", x.heights(0), 0);
    }

    private static void aloneInPlace() {
        check.by("in place of what it is alone");
        SnowCensus x = Check.of("f10;s02;s90;p40");
        x.reading(1, 6);
        check.due("0 .. 3, 4, 9; 3 and 4 touch", x.heights(0), 1 << 3 | 1 << 4);
        check.due("0 .. 2, 4, 9 10", x.heights(1), 1 << 1);
        check.due("0 .. 2, 4 5, 9", x.heights(2), 1 << 2 | 1 << 3);
        check.due("no kind of 0 makes it", x.kinds(0), 0);
        check.due("no kind of 1 makes it", x.kinds(1), 0);
        check.due("no span makes it", x.spans(), 0);
    }

    private static void byHowTheyAreNow() {
        check.by("All that follows");
        SnowCensus x = Check.of("f10;s05");
        x.reading(1, 6);
        check.due("as it is", x.heights(0), 32);
        x.build(1);
        check.due("behind the tower", x.heights(0), 0);
        x.walk(0, 1);
        check.due("out of its shadow", x.heights(0), 32);
        x.grow(0, 0);
        check.due("what it is now does not matter", x.heights(0), 32);
        check.due("but to its kinds", x.kinds(0), 0);
        check.due("and to the spans", x.spans(), 0);
        x.grow(0, 5);
        check.due("kinds", x.kinds(0), 1);
        check.due("spans", x.spans(), 2);
    }

    private static void whoIsAsked() {
        check.by("HEIGHTS, as a set. UNKNOWN.");
        SnowCensus five = Check.of("f10;s00;s00;s00;s00;s00");
        for (int a = -1; a <= 5; a++) {
            boolean isOne = a >= 0 && a <= 4;
            check.due("heights(" + a + ")", five.heights(a), isOne ? 1023 : Check.UNKNOWN);
            check.due("kinds(" + a + ")", five.kinds(a), isOne ? 7 : Check.UNKNOWN);
            check.due("no FIELD", new SnowCensus().heights(a), Check.UNKNOWN);
            check.due("no FIELD", new SnowCensus().kinds(a), Check.UNKNOWN);
        }
        check.due("no second", Check.of("f10;s00").heights(1), Check.UNKNOWN);
        check.due("no second", Check.of("f10;s00").kinds(1), Check.UNKNOWN);
    }

    private static void whatFollowsChangesNothing() {
        check.by("All that follows");
        SnowCensus x = World.of(World.READ_FULL);
        for (int a = 0; a < World.STANDERS; a++) {
            x.heights(a);
            x.kinds(a);
        }
        x.spans();
        x.odds(1, 2, 0);
        check.dueText("behind them", World.told(x), World.told(World.of(World.READ_FULL)));
        check.due("census", x.census(1), 2);
    }

    private static void shareDue(String text, int sun, int v, int upper, int lower) {
        SnowCensus x = Check.of(text);
        check.due("odds(" + sun + ", " + v + ", 0) of " + text, x.odds(sun, v, 0), upper);
        check.due("odds(" + sun + ", " + v + ", 1) of " + text, x.odds(sun, v, 1), lower);
    }

    private static void shares() {
        check.by("Shares are told as upper and lower number (above 0) in least terms.");
        shareDue("f10;s00", 1, 0, 1, 2);
        shareDue("f10;s00", 1, 1, 1, 2);
        shareDue("f10;s00", 1, 2, 0, 1);
        shareDue("f11;s00", 1, 0, 1, 1);
        shareDue("f11;s00", 1, 1, 0, 1);
        String five = "f10;s00;s20;s40;s60;s80";
        int[][] want = {{1, 32}, {5, 32}, {5, 16}, {5, 16}, {5, 32}, {1, 32}, {0, 1}};
        for (int v = 0; v <= 6; v++) {
            shareDue(five, 1, v, want[v][0], want[v][1]);
        }
        shareDue("f10;s00;s00;s00;s00;s00", 1, 1, 31, 32);
        shareDue("f10;s00;s00;s00;s00;s00", 1, 0, 1, 32);
        shareDue("f19;s00;s20;s40;s60;s80", 1, 0, 1, 1);
        shareDue("f18;s00;s20;s40;s60;s80", 1, 0, 1, 2);
        shareDue("f16;s00;s20;s40;s60;s80", 1, 1, 1, 2);
        shareDue("f16;s00;s20;s40;s60;s80", 1, 2, 1, 4);
        shareDue("f10;s00;s21", 1, 3, 1, 4);
        shareDue("f10;s09;s99", 3, 37, 1, 4);
        shareDue("f10;s09;s99", 3, 28, 1, 2);
    }

    private static void numbersOfOdds() {
        check.by("ODDS of v (0 .. 99) at a SUN (1 .. 3; which 0 the upper, 1 the lower number). LOST");
        SnowCensus none = new SnowCensus();
        for (int sun = 0; sun <= 4; sun++) {
            for (int v : new int[] {-1, 0, 98, 99, 100}) {
                for (int which = -1; which <= 2; which++) {
                    SnowCensus x = Check.of("f10;s00");
                    World.leaveFault(x, 4);
                    boolean isRight = sun >= 1 && sun <= 3 && v >= 0 && v <= 99 && which >= 0 && which <= 1;
                    long share = v == 0 ? 1 + which : which;
                    String call = "odds(" + sun + ", " + v + ", " + which + ")";
                    check.due(call, x.odds(sun, v, which), isRight ? share : Check.LOST);
                    check.due("fault() behind " + call, x.fault(), 4);
                    check.due(call + " without a field", none.odds(sun, v, which), Check.LOST);
                }
            }
        }
    }
}

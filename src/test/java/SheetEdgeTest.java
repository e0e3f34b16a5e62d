/** The edges of promises 21 to 31: sheet, lose, put, cell, copy, tell, tax, as, trace, fault, many. */
final class SheetEdgeTest {
    private static final Check check = new Check("SheetEdgeTest");
    private static final int LEAST = Integer.MIN_VALUE, MOST = Integer.MAX_VALUE;

    public static void main(String[] args) {
        numbersOfSheet();
        howManyCells();
        aNewRow();
        loseTwice();
        cellsOfARow();
        cutToLanes();
        takenAsALane();
        copyAsTheyWere();
        copyOfAllOrNone();
        copyBeyond();
        copyOfNothing();
        copyOfUnlikeLanes();
        copyToItself();
        tellings();
        taxes();
        kindsTakenAs();
        traceWraps();
        faultAheadOfAny();
        faultOfTheLatest();
        manyWithoutAField();
        numbersOfMany();
        check.end();
    }

    private static void numbersOfSheet() {
        check.by("A SHEET gets a new row: 1. UNKNOWN; OUTSIDE: lane, n above 60; SIZE.");
        for (int k = -1; k <= 4; k++) {
            for (int lane = -1; lane <= 3; lane++) {
                for (int n : new int[] {LEAST, -1, 0, 1, 59, 60, 61, MOST}) {
                    SnowCensus x = new SnowCensus();
                    int due = k < 0 || k > 3 ? Check.UNKNOWN
                        : lane < 0 || lane > 2 || n > 60 ? Check.OUTSIDE : n < 0 ? Check.SIZE : 1;
                    check.due("sheet(" + k + ", " + lane + ", " + n + ")", x.sheet(k, lane, n), due);
                    check.due("fault() behind it", x.fault(), due == Check.SIZE ? 4 : 0);
                    check.due("it has a row", x.lose(k), due == Check.UNKNOWN ? due : due == 1 ? 1 : 0);
                }
            }
        }
    }

    private static void howManyCells() {
        check.by("a row of 0 .. 60 numbers (0 at first)");
        for (int n = 0; n <= 60; n++) {
            SnowCensus x = new SnowCensus();
            int lane = n % 3;
            x.sheet(1, lane, n);
            for (int i = 0; i < n; i++) {
                check.due("cell " + i + " of " + n, x.cell(1, i, lane), 0);
            }
            check.due("cell " + n + " of " + n, x.cell(1, n, lane), Check.LOST);
            check.due("fault()", x.fault(), 3);
            check.due("cell -1 of " + n, x.cell(1, -1, lane), Check.LOST);
            check.due("fault()", x.fault(), 3);
        }
    }

    private static void aNewRow() {
        check.by("A SHEET gets a new row");
        SnowCensus x = new SnowCensus();
        Check.write(x, 0, 2, 1, 2, 3);
        Check.write(x, 1, 2, 4, 5);
        x.sheet(0, 2, 2);
        check.due("0 at first", x.cell(0, 0, 2), 0);
        check.due("a lesser one", x.cell(0, 2, 2), Check.LOST);
        x.sheet(0, 2, 3);
        check.due("0 at first", x.cell(0, 2, 2), 0);
        x.put(0, 2, 9);
        x.sheet(0, 0, 3);
        check.due("of another lane", x.cell(0, 2, 0), 0);
        check.due("no longer of ints", x.cell(0, 2, 2), Check.LOST);
        check.due("CAST", x.fault(), 2);
        x.put(0, 1, 7);
        check.due("one that is refused", x.sheet(0, 1, 61), Check.OUTSIDE);
        check.due("one of -1", x.sheet(0, 1, -1), Check.SIZE);
        check.due("leave it what it had", x.cell(0, 1, 0), 7);
        check.due("the others stay", x.cell(1, 1, 2), 5);
    }

    private static void loseTwice() {
        check.by("A SHEET has nothing: 1; 0: it had nothing.");
        SnowCensus x = new SnowCensus();
        for (int n : new int[] {0, 1, 60}) {
            for (int k = 0; k < 4; k++) {
                x.sheet(k, 0, n);
            }
            for (int k = 0; k < 4; k++) {
                check.due("it had a row of " + n, x.lose(k), 1);
                check.due("it had nothing", x.lose(k), 0);
                check.due("nothing", x.put(k, 0, 0), Check.NULL);
                check.due("the next one has its own", k == 3 ? 1 : x.copy(k + 1, 0, k + 1, 0, n) == n ? 1 : 0, 1);
            }
        }
        check.due("lose(-1)", x.lose(-1), Check.UNKNOWN);
        check.due("lose(4)", x.lose(4), Check.UNKNOWN);
        x.sheet(0, 2, 2);
        check.due("a row again", x.cell(0, 1, 2), 0);
    }

    private static void cellsOfARow() {
        check.by("Cell i of a SHEET becomes v: 1. UNKNOWN; NULL; INDEX.");
        for (int n : new int[] {0, 1, 2, 60}) {
            SnowCensus x = new SnowCensus();
            check.due("to nothing", x.put(2, 0, 5), Check.NULL);
            check.due("to nothing, beyond", x.put(2, 60, 5), Check.NULL);
            x.sheet(2, 2, n);
            for (int i : new int[] {-1, 0, n - 1, n, n + 1, 60, LEAST, MOST}) {
                boolean isCell = i >= 0 && i < n;
                check.due("put at " + i + " of " + n, x.put(2, i, 5), isCell ? 1 : Check.INDEX);
                check.due("fault()", x.fault(), isCell ? 0 : 3);
                check.due("cell " + i + " of " + n, x.cell(2, i, 2), isCell ? 5 : Check.LOST);
                check.due("fault()", x.fault(), isCell ? 0 : 3);
            }
        }
    }

    private static void cutDue(int lane, int v, long want) {
        SnowCensus x = new SnowCensus();
        x.sheet(0, lane, 3);
        check.due("put " + v + " to lane " + lane, x.put(0, 1, v), 1);
        check.due("its cell", x.cell(0, 1, lane), want);
        check.due("the cell ahead", x.cell(0, 0, lane), 0);
        check.due("the cell behind", x.cell(0, 2, lane), 0);
    }

    private static void cutToLanes() {
        check.by("what comes to a cell of it is cut to its LANE");
        int[] ofBytes = {127, 127, 128, -128, -128, -128, -129, 127, 255, -1, 256, 0, 257, 1, 65408, -128};
        for (int k = 0; k < ofBytes.length; k += 2) {
            cutDue(0, ofBytes[k], ofBytes[k + 1]);
        }
        int[] ofShorts = {32767, 32767, 32768, -32768, -32768, -32768, -32769, 32767, 65535, -1, 65536, 0,
            65537, 1, 128, 128};
        for (int k = 0; k < ofShorts.length; k += 2) {
            cutDue(1, ofShorts[k], ofShorts[k + 1]);
        }
        for (int v : new int[] {0, -1, 32768, 65536, -32769, LEAST, MOST}) {
            cutDue(2, v, v);
        }
        cutDue(0, LEAST, 0);
        cutDue(0, MOST, -1);
        cutDue(1, LEAST, 0);
        cutDue(1, MOST, -1);
    }

    private static void takenAsALane() {
        check.by("Cell i of what a SHEET has, taken as a row of a LANE.");
        for (int has = 0; has <= 2; has++) {
            SnowCensus x = new SnowCensus();
            Check.write(x, 0, has, 7);
            for (int as = -1; as <= 3; as++) {
                boolean isLane = as >= 0 && as <= 2;
                check.due(has + " as " + as, x.cell(0, 0, as), as == has ? 7 : Check.LOST);
                check.due("fault()", x.fault(), isLane && as != has ? 2 : 0);
                check.due(has + " as " + as + ", beyond", x.cell(0, 1, as), Check.LOST);
                check.due("fault()", x.fault(), !isLane ? 0 : as != has ? 2 : 3);
                check.due("nothing as " + as, x.cell(1, 0, as), Check.LOST);
                check.due("fault()", x.fault(), isLane ? 1 : 0);
            }
        }
    }

    private static int[] counted(int n) {
        int[] cells = new int[n];
        for (int i = 0; i < n; i++) {
            cells[i] = i + 1;
        }
        return cells;
    }

    private static void rowDue(SnowCensus x, int k, int lane, int... want) {
        for (int i = 0; i < want.length; i++) {
            check.due("cell " + i + " of sheet " + k, x.cell(k, i, lane), want[i]);
        }
        check.due("no more of sheet " + k, x.cell(k, want.length, lane), Check.LOST);
    }

    private static void copyAsTheyWere() {
        check.by("go to another one (perhaps the same) from j on, as they were");
        for (int lane = 0; lane <= 2; lane++) {
            SnowCensus x = new SnowCensus();
            Check.write(x, 0, lane, counted(5));
            check.due("one on", x.copy(0, 0, 0, 1, 4), 4);
            rowDue(x, 0, lane, 1, 1, 2, 3, 4);
            Check.write(x, 0, lane, counted(5));
            check.due("one back", x.copy(0, 1, 0, 0, 4), 4);
            rowDue(x, 0, lane, 2, 3, 4, 5, 5);
            Check.write(x, 0, lane, counted(5));
            check.due("two on, over two", x.copy(0, 0, 0, 2, 3), 3);
            rowDue(x, 0, lane, 1, 2, 1, 2, 3);
            Check.write(x, 1, lane, 9, 9, 9);
            check.due("to another", x.copy(0, 3, 1, 1, 2), 2);
            rowDue(x, 1, lane, 9, 2, 3);
            rowDue(x, 0, lane, 1, 2, 1, 2, 3);
        }
        SnowCensus x = new SnowCensus();
        Check.write(x, 2, 1, -32768, 32767, -1);
        x.sheet(3, 1, 3);
        check.due("shorts", x.copy(2, 0, 3, 0, 3), 3);
        rowDue(x, 3, 1, -32768, 32767, -1);
    }

    private static void copyOfAllOrNone() {
        check.by("from j on, as they were: n.");
        SnowCensus x = new SnowCensus();
        Check.write(x, 0, 2, counted(60));
        x.sheet(1, 2, 60);
        check.due("none", x.copy(0, 0, 1, 0, 0), 0);
        check.due("nothing came", x.cell(1, 0, 2), 0);
        check.due("all 60", x.copy(0, 0, 1, 0, 60), 60);
        check.due("the first", x.cell(1, 0, 2), 1);
        check.due("the last", x.cell(1, 59, 2), 60);
        check.due("61", x.copy(0, 0, 1, 0, 61), Check.INDEX);
        check.due("all 60 onto themselves", x.copy(0, 0, 0, 0, 60), 60);
        check.due("59 one on", x.copy(0, 0, 0, 1, 59), 59);
        check.due("the last", x.cell(0, 59, 2), 59);
        check.due("60 one on", x.copy(0, 0, 0, 1, 60), Check.INDEX);
        check.due("the last of one to the first of the other", x.copy(1, 59, 0, 0, 1), 1);
        check.due("it came", x.cell(0, 0, 2), 60);
    }

    private static void copyBeyond() {
        check.by("INDEX: i, j, n below 0 or beyond");
        int[] edges = {LEAST, -1, 0, 1, 2, 3, 4, 5, MOST};
        for (int i : edges) {
            for (int j : edges) {
                for (int n : edges) {
                    SnowCensus x = new SnowCensus();
                    Check.write(x, 0, 0, 1, 2, 3);
                    Check.write(x, 1, 0, 5, 6, 7, 8);
                    boolean isThere = i >= 0 && j >= 0 && n >= 0 && (long) i + n <= 3 && (long) j + n <= 4;
                    String call = "copy(0, " + i + ", 1, " + j + ", " + n + ")";
                    check.due(call, x.copy(0, i, 1, j, n), isThere ? n : Check.INDEX);
                    check.due("fault() behind " + call, x.fault(), isThere ? 0 : 3);
                    for (int c = 0; c < 4; c++) {
                        boolean came = isThere && c >= j && c < j + n;
                        check.due("cell " + c + " behind " + call, x.cell(1, c, 0), came ? i + c - j + 1 : c + 5);
                    }
                }
            }
        }
        check.by("where i is not 0 .. how many there are, if none of them is taken, too");
        SnowCensus x = new SnowCensus();
        x.sheet(0, 0, 0);
        x.sheet(1, 0, 0);
        check.due("none of none", x.copy(0, 0, 1, 0, 0), 0);
        check.due("none of none, i 1", x.copy(0, 1, 1, 0, 0), Check.INDEX);
        check.due("none of none, j 1", x.copy(0, 0, 1, 1, 0), Check.INDEX);
        check.due("none of none, i -1", x.copy(0, -1, 1, 0, 0), Check.INDEX);
        check.due("none of none, j -1", x.copy(0, 0, 1, -1, 0), Check.INDEX);
        check.due("one of none", x.copy(0, 0, 1, 0, 1), Check.INDEX);
    }

    private static void copyOfNothing() {
        check.by("FAULTS NULL (the first, the other)");
        for (int lane = 0; lane <= 2; lane++) {
            SnowCensus x = new SnowCensus();
            x.sheet(0, lane, 1);
            check.due("from nothing", x.copy(1, 0, 0, 0, 0), Check.NULL);
            check.due("fault()", x.fault(), 1);
            World.leaveFault(x, 3);
            check.due("to nothing", x.copy(0, 0, 1, 0, 0), Check.NULL);
            check.due("fault()", x.fault(), 1);
            check.due("from nothing to nothing", x.copy(1, 0, 2, 0, 0), Check.NULL);
            check.due("from nothing to the same", x.copy(1, 0, 1, 0, 0), Check.NULL);
            check.due("from nothing to no sheet", x.copy(1, 0, 4, 0, 0), Check.UNKNOWN);
            check.due("from no sheet to nothing", x.copy(-1, 0, 1, 0, 0), Check.UNKNOWN);
            check.due("fault()", x.fault(), 0);
        }
    }

    private static void copyOfUnlikeLanes() {
        check.by("CAST (unlike LANES)");
        for (int from = 0; from <= 2; from++) {
            for (int to = 0; to <= 2; to++) {
                SnowCensus x = new SnowCensus();
                Check.write(x, 0, from, 7);
                Check.write(x, 1, to, 8);
                check.due(from + " to " + to, x.copy(0, 0, 1, 0, 1), from == to ? 1 : Check.CAST);
                check.due("fault()", x.fault(), from == to ? 0 : 2);
                check.due("its cell", x.cell(1, 0, to), from == to ? 7 : 8);
                check.due("none of them", x.copy(0, 0, 1, 0, 0), from == to ? 0 : Check.CAST);
                check.due("beyond", x.copy(0, 2, 1, 0, 1), from == to ? Check.INDEX : Check.CAST);
            }
        }
    }

    private static void copyToItself() {
        check.by("another one (perhaps the same)");
        for (int k = 0; k < 4; k++) {
            SnowCensus x = new SnowCensus();
            Check.write(x, k, 1, 1, 2, 3);
            check.due("sheet " + k + " to itself", x.copy(k, 0, k, 0, 3), 3);
            rowDue(x, k, 1, 1, 2, 3);
            check.due("its first to its last", x.copy(k, 0, k, 2, 1), 1);
            rowDue(x, k, 1, 1, 2, 1);
            check.due("one too many", x.copy(k, 0, k, 1, 3), Check.INDEX);
            check.due("fault()", x.fault(), 3);
        }
    }

    private static int traceBehind(int trace, int... bodies) {
        long sum = trace;
        for (int body : bodies) {
            sum = (31 * sum + body) % (1L << 32);
        }
        return (int) sum;
    }

    private static void tellings() {
        check.by("STANDER (1): HEIGHT. RIDER (2): what STANDER's gives, and 100. POLE (3)");
        int[] heights = {0, 1, 9};
        int[][] bodies = {{1}, {2, 1}, {3, 2, 1, 1}};
        for (int height : heights) {
            for (int kind = 0; kind <= 2; kind++) {
                SnowCensus x = Check.of("f99;" + "srp".charAt(kind) + "0" + height);
                int due = kind == 0 ? height : kind == 1 ? height + 100 : 2 * height + 100;
                check.due("kind " + kind + " of " + height, x.tell(0), due);
                check.due("trace()", x.trace(), traceBehind(0, bodies[kind]));
                check.due("tell(-1)", x.tell(-1), Check.UNKNOWN);
                check.due("tell(1)", x.tell(1), Check.UNKNOWN);
                check.due("trace() stays", x.trace(), traceBehind(0, bodies[kind]));
            }
        }
        SnowCensus five = Check.of("f10;s00;s01;s02;s03;s04");
        check.due("the fifth", five.tell(4), 4);
        check.due("a sixth", five.tell(5), Check.UNKNOWN);
    }

    private static void taxes() {
        check.by("TAXED by a lent body (4): their number; POLES have their own (5): 60.");
        for (int kind = 0; kind <= 2; kind++) {
            String one = ";" + "srp".charAt(kind) + "07";
            SnowCensus x = Check.of("f10" + one + one + one + one + one);
            int trace = 0;
            for (int a = -1; a <= 5; a++) {
                boolean isOne = a >= 0 && a <= 4;
                check.due("tax(" + a + ")", x.tax(a), !isOne ? Check.UNKNOWN : kind == 2 ? 60 : a);
                trace = isOne ? traceBehind(trace, kind == 2 ? 5 : 4) : trace;
                check.due("trace()", x.trace(), trace);
            }
        }
    }

    private static void kindsTakenAs() {
        check.by("CAST: they are none (each is a STANDER, too; a POLE is a RIDER)");
        SnowCensus x = Check.of("f10;s00;r00;p00");
        for (int a = -1; a <= 3; a++) {
            for (int kind = -1; kind <= 3; kind++) {
                boolean isOne = a >= 0 && a <= 2;
                boolean isKind = kind >= 0 && kind <= 2;
                int due = !isOne ? Check.UNKNOWN : !isKind ? Check.OUTSIDE : kind > a ? Check.CAST : 1;
                check.due("as(" + a + ", " + kind + ")", x.as(a, kind), due);
                check.due("fault()", x.fault(), due == Check.CAST ? 2 : 0);
            }
        }
    }

    private static void traceWraps() {
        check.by("an int that wraps, 0 at first, becomes 31 times it and the number");
        SnowCensus x = Check.of("f10;s00;r00;p00");
        int trace = 0;
        check.due("0 at first", x.trace(), 0);
        boolean wasBelow = false;
        boolean roseAgain = false;
        for (int k = 0; k < 60; k++) {
            x.tell(k % 3);
            trace = traceBehind(trace, new int[][] {{1}, {2, 1}, {3, 2, 1, 1}}[k % 3]);
            check.due("behind tell " + k, x.trace(), trace);
            x.tax(2 - k % 3);
            trace = traceBehind(trace, k % 3 == 0 ? 5 : 4);
            check.due("behind tax " + k, x.trace(), trace);
            roseAgain |= wasBelow && trace > 0;
            wasBelow |= trace < 0;
        }
        check.dueTrue("it wrapped below 0 and above it again", roseAgain);
        // The last ahead of the first wrap, and the first behind it: 31 to the sixth is below 2 to the 31st.
        SnowCensus y = Check.of("f10;s00");
        int[] want = {1, 32, 993, 30784, 954305, 29583456, 917087137, -1635069824};
        for (int k = 0; k < want.length; k++) {
            y.tell(0);
            check.due("behind " + (k + 1) + " tellings", y.trace(), want[k]);
        }
    }

    private static void faultAheadOfAny() {
        check.by("(0 ahead of any)");
        SnowCensus x = new SnowCensus();
        check.due("fault()", x.fault(), 0);
        x.lose(-1);
        x.lose(0);
        x.tell(0);
        x.many(-1);
        x.odds(0, -1, 2);
        x.back(1);
        check.due("fault() behind calls that name none", x.fault(), 0);
        check.due("fault() behind fault()", x.fault(), 0);
    }

    private static void faultOfTheLatest() {
        check.by("The FAULT of the latest call that names one");
        for (int first = 0; first <= 4; first++) {
            for (int second = 0; second <= 4; second++) {
                SnowCensus x = World.of(World.LAID);
                World.leaveFault(x, first);
                World.leaveFault(x, second);
                check.due(second + " behind " + first, x.fault(), second);
                check.due("once more", x.fault(), second);
            }
        }
    }

    private static void manyWithoutAField() {
        check.by("(0 all without a FIELD)");
        SnowCensus x = new SnowCensus();
        Check.write(x, 0, 0, Check.codes("f99;s9"));
        check.due("too short a TEXT", x.field(0, 0, 0, 6), -106);
        check.due("no tower", x.build(5), Check.STATE);
        check.due("no reading", x.reading(1, 1), Check.STATE);
        for (int what = 0; what <= 3; what++) {
            check.due("many(" + what + ")", x.many(what), 0);
        }
        check.due("many(-1)", x.many(-1), Check.OUTSIDE);
        check.due("many(4)", x.many(4), Check.OUTSIDE);
    }

    private static void manyDue(SnowCensus x, int... want) {
        check.due("many(-1)", x.many(-1), Check.OUTSIDE);
        for (int what = 0; what <= 3; what++) {
            check.due("many(" + what + ")", x.many(what), want[what]);
        }
        check.due("many(4)", x.many(4), Check.OUTSIDE);
    }

    private static void numbersOfMany() {
        check.by("How many: 0 STANDERS, 1 SPAN, 2 TOWER, 3 READINGS");
        manyDue(Check.of("f10;s00"), 1, 1, 0, 0);
        manyDue(Check.of("f99;s00;s00;s00;s00;s00"), 5, 9, 9, 0);
        manyDue(World.of(World.LAID), World.STANDERS, 4, 1, World.READINGS);
        manyDue(World.of(World.READ_FULL), World.STANDERS, 4, 1, 8);
    }
}

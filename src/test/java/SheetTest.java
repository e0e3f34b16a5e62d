/** Promises 21 to 31: sheet, lose, put, cell, copy, tell, tax, as, trace, fault, many. */
final class SheetTest {
    private static final Check check = new Check("SheetTest");

    public static void main(String[] args) {
        sheets();
        lose();
        putAndCell();
        cellLost();
        copies();
        copiesRefused();
        telling();
        taxed();
        as();
        faults();
        many();
        check.end();
    }

    private static void sheets() {
        SnowCensus x = new SnowCensus();
        for (int k = 0; k < 4; k++) {
            for (int lane = 0; lane <= 2; lane++) {
                check.due("60 cells", x.sheet(k, lane, 60), 1);
                check.due("the first", x.put(k, 0, 5), 1);
                check.due("the last", x.put(k, 59, 5), 1);
                check.due("beyond", x.put(k, 60, 5), Check.INDEX);
                check.due("no cells", x.sheet(k, lane, 0), 1);
                check.due("none of them", x.cell(k, 0, lane), Check.LOST);
                check.due("INDEX", x.fault(), 3);
                check.due("a new row", x.sheet(k, lane, 60), 1);
                check.due("is 0", x.cell(k, 0, lane), 0);
                check.due("is 0", x.cell(k, 59, lane), 0);
            }
        }
        check.due("sheet ahead of lane", x.sheet(4, 3, -1), Check.UNKNOWN);
        check.due("sheet -1", x.sheet(-1, 0, 1), Check.UNKNOWN);
        check.due("lane ahead of SIZE", x.sheet(0, 3, -1), Check.OUTSIDE);
        check.due("lane -1", x.sheet(0, -1, 1), Check.OUTSIDE);
        check.due("61 cells", x.sheet(0, 0, 61), Check.OUTSIDE);
        check.due("fault()", x.fault(), 0);
        x.put(0, 3, 7);
        check.due("-1 cells", x.sheet(0, 0, -1), Check.SIZE);
        check.due("fault()", x.fault(), 4);
        check.due("it has what it had", x.cell(0, 3, 2), 7);
        for (int wild : Check.WILD) {
            check.due("sheet " + wild, x.sheet(wild, 0, 1), Check.UNKNOWN);
            check.due("lane " + wild, x.sheet(0, wild, 1), Check.OUTSIDE);
            check.due("n " + wild, x.sheet(0, 0, wild), wild < 0 ? Check.SIZE : Check.OUTSIDE);
        }
    }

    private static void lose() {
        SnowCensus x = new SnowCensus();
        x.sheet(2, 1, 0);
        check.due("it had a row of none", x.lose(2), 1);
        check.due("it had nothing", x.lose(2), 0);
        check.due("NULL", x.put(2, 0, 0), Check.NULL);
        check.due("lose names no faults", x.lose(1), 0);
        check.due("so it stays", x.fault(), 1);
        check.due("no sheet 4", x.lose(4), Check.UNKNOWN);
        check.due("no sheet -1", x.lose(-1), Check.UNKNOWN);
        check.due("so it stays", x.fault(), 1);
        for (int wild : Check.WILD) {
            check.due("sheet " + wild, x.lose(wild), Check.UNKNOWN);
        }
    }

    private static void putAndCell() {
        SnowCensus x = new SnowCensus();
        int[] values = {0, 1, -1, 127, 128, 255, 256, -129, 32767, 32768, 65535, 65536, 1 << 31,
            Integer.MAX_VALUE};
        for (int lane = 0; lane <= 2; lane++) {
            x.sheet(lane, lane, 3);
            for (int v : values) {
                long want = lane == 0 ? (byte) v : lane == 1 ? (short) v : v;
                check.due("put " + v, x.put(lane, 1, v), 1);
                check.due("cell of lane " + lane, x.cell(lane, 1, lane), want);
            }
            check.due("the one ahead", x.cell(lane, 0, lane), 0);
            check.due("the one behind", x.cell(lane, 2, lane), 0);
        }
        check.due("put beyond", x.put(0, 3, 1), Check.INDEX);
        check.due("fault()", x.fault(), 3);
        check.due("put at -1", x.put(0, -1, 1), Check.INDEX);
        check.due("put to nothing, ahead of INDEX", x.put(3, -1, 1), Check.NULL);
        check.due("fault()", x.fault(), 1);
        check.due("no sheet 4", x.put(4, 0, 1), Check.UNKNOWN);
        check.due("fault()", x.fault(), 0);
        for (int wild : Check.WILD) {
            check.due("put at " + wild, x.put(0, wild, 1), Check.INDEX);
            check.due("put to " + wild, x.put(wild, 0, 1), Check.UNKNOWN);
        }
    }

    private static void lost(SnowCensus x, int k, int i, int lane, int fault) {
        check.due("cell(" + k + ", " + i + ", " + lane + ")", x.cell(k, i, lane), Check.LOST);
        check.due("fault() behind it", x.fault(), fault);
    }

    private static void cellLost() {
        SnowCensus x = new SnowCensus();
        x.sheet(0, 1, 2);
        lost(x, 0, 2, 1, 3);
        lost(x, 4, 0, 1, 0);
        lost(x, 0, -1, 1, 3);
        lost(x, -1, 0, 9, 0);
        lost(x, 0, 9, 0, 2);
        lost(x, 0, 9, 3, 0);
        lost(x, 1, 9, 2, 1);
        lost(x, 1, 9, -1, 0);
        for (int wild : Check.WILD) {
            lost(x, 0, wild, 1, 3);
            lost(x, wild, 0, 1, 0);
            lost(x, 0, wild, 2, 2);
            lost(x, 0, 0, wild, 0);
        }
        check.due("the last", x.cell(0, 1, 1), 0);
        check.due("fault()", x.fault(), 0);
    }

    private static long[] cells(SnowCensus x, int k, int lane, int n) {
        long[] row = new long[n];
        for (int i = 0; i < n; i++) {
            row[i] = x.cell(k, i, lane);
        }
        return row;
    }

    private static void copies() {
        SnowCensus x = new SnowCensus();
        Check.write(x, 0, 2, 1, 2, 3, 4, 5);
        x.sheet(1, 2, 4);
        check.due("copy", x.copy(0, 1, 1, 0, 3), 3);
        check.dueRow("to another", cells(x, 1, 2, 4), 2, 3, 4, 0);
        check.dueRow("from", cells(x, 0, 2, 5), 1, 2, 3, 4, 5);
        check.due("onward", x.copy(0, 0, 0, 1, 4), 4);
        check.dueRow("as they were", cells(x, 0, 2, 5), 1, 1, 2, 3, 4);
        check.due("backward", x.copy(0, 2, 0, 0, 3), 3);
        check.dueRow("as they were", cells(x, 0, 2, 5), 2, 3, 4, 3, 4);
        check.due("none, at both ends", x.copy(0, 5, 1, 4, 0), 0);
        check.due("all onto themselves", x.copy(0, 0, 0, 0, 5), 5);
        check.dueRow("as they were", cells(x, 0, 2, 5), 2, 3, 4, 3, 4);
        check.due("fault()", x.fault(), 0);
        Check.write(x, 2, 0, -128, 127);
        x.sheet(3, 0, 2);
        check.due("bytes", x.copy(2, 0, 3, 0, 2), 2);
        check.dueRow("bytes", cells(x, 3, 0, 2), -128, 127);
    }

    private static void copiesRefused() {
        SnowCensus x = new SnowCensus();
        Check.write(x, 0, 2, 1, 2, 3);
        Check.write(x, 1, 2, 7, 8);
        Check.write(x, 2, 1, 0, 0);
        check.due("no sheet 4", x.copy(4, 9, 3, 0, 0), Check.UNKNOWN);
        check.due("no other 4", x.copy(3, 9, 4, 0, 0), Check.UNKNOWN);
        check.due("no other -1", x.copy(0, 0, -1, 0, 1), Check.UNKNOWN);
        check.due("fault()", x.fault(), 0);
        check.due("NULL: the first", x.copy(3, 9, 0, 0, 1), Check.NULL);
        check.due("fault()", x.fault(), 1);
        check.due("NULL: the other", x.copy(2, 9, 3, 0, 1), Check.NULL);
        check.due("CAST ahead of INDEX", x.copy(0, 9, 2, 0, 1), Check.CAST);
        check.due("fault()", x.fault(), 2);
        int[][] beyond = {{0, 0, 3}, {1, 0, 3}, {0, 1, 2}, {-1, 0, 1}, {0, -1, 1}, {0, 0, -1},
            {4, 0, 0}, {0, 3, 0}, {-1, 0, 0}, {0, -1, 0}, {3, 0, 1}, {0, 2, 1}};
        for (int[] c : beyond) {
            check.due("copy from " + c[0] + " to " + c[1] + " of " + c[2],
                x.copy(0, c[0], 1, c[1], c[2]), Check.INDEX);
            check.due("fault()", x.fault(), 3);
        }
        for (int wild : Check.WILD) {
            check.due("i " + wild, x.copy(0, wild, 1, 0, 1), Check.INDEX);
            check.due("j " + wild, x.copy(0, 0, 1, wild, 1), Check.INDEX);
            check.due("n " + wild, x.copy(0, 1, 1, 1, wild), Check.INDEX);
            check.due("k " + wild, x.copy(wild, 0, 1, 0, 1), Check.UNKNOWN);
            check.due("other " + wild, x.copy(0, 0, wild, 0, 1), Check.UNKNOWN);
        }
        check.dueRow("nothing is changed", cells(x, 1, 2, 2), 7, 8);
    }

    private static int traceOf(int... bodies) {
        int trace = 0;
        for (int body : bodies) {
            trace = 31 * trace + body;
        }
        return trace;
    }

    private static void telling() {
        SnowCensus x = Check.of("f10;s03;r04;p05");
        check.due("tell(0)", x.tell(0), 3);
        check.due("trace()", x.trace(), traceOf(1));
        check.due("tell(1)", x.tell(1), 104);
        check.due("trace()", x.trace(), traceOf(1, 2, 1));
        check.due("tell(2)", x.tell(2), 110);
        check.due("trace()", x.trace(), traceOf(1, 2, 1, 3, 2, 1, 1));
        check.due("no stander 3", x.tell(3), Check.UNKNOWN);
        check.due("no stander -1", x.tell(-1), Check.UNKNOWN);
        check.due("no field", new SnowCensus().tell(0), Check.UNKNOWN);
        for (int wild : Check.WILD) {
            check.due("tell " + wild, x.tell(wild), Check.UNKNOWN);
        }
        check.due("trace stays", x.trace(), traceOf(1, 2, 1, 3, 2, 1, 1));
        x.grow(2, 0);
        check.due("a pole of 0", x.tell(2), 100);
        check.due("it wraps", x.trace(), traceOf(1, 2, 1, 3, 2, 1, 1, 3, 2, 1, 1));
    }

    private static void taxed() {
        SnowCensus x = Check.of("f10;s03;r04;p05;s00;r99");
        int[] want = {0, 1, 60, 3, 4};
        int[] body = {4, 4, 5, 4, 4};
        int trace = 0;
        for (int a = 0; a < 5; a++) {
            check.due("tax(" + a + ")", x.tax(a), want[a]);
            trace = 31 * trace + body[a];
            check.due("trace()", x.trace(), trace);
        }
        check.due("no stander 5", x.tax(5), Check.UNKNOWN);
        for (int wild : Check.WILD) {
            check.due("tax " + wild, x.tax(wild), Check.UNKNOWN);
        }
        check.due("trace stays", x.trace(), trace);
    }

    private static void as() {
        SnowCensus x = Check.of("f10;s03;r04;p05");
        for (int a = 0; a < 3; a++) {
            for (int kind = 0; kind < 3; kind++) {
                check.due("as(" + a + ", " + kind + ")", x.as(a, kind), kind <= a ? 1 : Check.CAST);
                check.due("fault()", x.fault(), kind <= a ? 0 : 2);
            }
            check.due("kind -1", x.as(a, -1), Check.OUTSIDE);
            check.due("kind 3", x.as(a, 3), Check.OUTSIDE);
            check.due("fault()", x.fault(), 0);
        }
        x.as(0, 2);
        check.due("no stander ahead of kind", x.as(3, 3), Check.UNKNOWN);
        check.due("fault()", x.fault(), 0);
        for (int wild : Check.WILD) {
            check.due("as of " + wild, x.as(wild, 0), Check.UNKNOWN);
            check.due("as " + wild, x.as(0, wild), Check.OUTSIDE);
        }
        check.due("trace is not touched", x.trace(), 0);
        check.due("its kind stays", x.ofStander(2, 0), 2);
    }

    /** Calls that name no faults leave the latest one, whether they are refused or not. */
    private static void faults() {
        SnowCensus x = Check.of("f10;s03;r04;p05");
        check.due("SIZE", x.sheet(1, 0, -5), Check.SIZE);
        for (int round = 0; round < 2; round++) {
            int v = round == 0 ? 1 : -7;
            x.ofStander(v, v);
            x.walk(v, v);
            x.grow(v, v);
            x.build(v);
            x.shade(v, v);
            x.hidden(v);
            x.census(v);
            x.runs(v, v);
            x.fair();
            x.pair(v, 0, v, v);
            x.send(v, v);
            x.reading(v, v);
            x.back(v);
            x.heights(v);
            x.kinds(v);
            x.spans();
            x.odds(v, v, v);
            x.lose(v);
            x.tell(v);
            x.tax(v);
            x.trace();
            x.many(v);
            check.due("fault() stays", x.fault(), 4);
            check.due("fault() itself, too", x.fault(), 4);
        }
        faultsGone(x);
    }

    private static void comeToIndex(SnowCensus x) {
        x.put(0, 60, 0);
        check.due("INDEX", x.fault(), 3);
    }

    /** Calls that name faults leave 0, if they came to none or were refused. */
    private static void faultsGone(SnowCensus x) {
        comeToIndex(x);
        x.put(0, 0, 102);
        check.due("put came to none", x.fault(), 0);
        comeToIndex(x);
        x.put(4, 0, 0);
        check.due("put was refused", x.fault(), 0);
        comeToIndex(x);
        x.sheet(1, 0, 2);
        check.due("sheet came to none", x.fault(), 0);
        comeToIndex(x);
        x.sheet(1, 0, 61);
        check.due("sheet was refused", x.fault(), 0);
        comeToIndex(x);
        x.copy(0, 0, 1, 0, 0);
        check.due("copy came to none", x.fault(), 0);
        comeToIndex(x);
        x.copy(0, 0, 4, 0, 0);
        check.due("copy was refused", x.fault(), 0);
        comeToIndex(x);
        x.cell(0, 0, 0);
        check.due("cell came to none", x.fault(), 0);
        comeToIndex(x);
        x.cell(0, 0, 3);
        check.due("cell was refused", x.fault(), 0);
        comeToIndex(x);
        x.as(0, 0);
        check.due("as came to none", x.fault(), 0);
        comeToIndex(x);
        x.walks(1, 1, 0, 0, 0, 0);
        check.due("walks came to none", x.fault(), 0);
        comeToIndex(x);
        x.walks(0, 1, 0, 0, 0, 0);
        check.due("walks was refused", x.fault(), 0);
        comeToIndex(x);
        x.field(0, 0, 0, 3);
        check.due("field came to none, but to a FIRST FAULT", x.fault(), 0);
        comeToIndex(x);
        x.field(0, 3, 0, 3);
        check.due("field was refused", x.fault(), 0);
    }

    private static void many() {
        SnowCensus x = Check.of("f73;s03;r04;p05");
        x.reading(1, 1);
        x.reading(1, 1);
        check.due("standers", x.many(0), 3);
        check.due("span", x.many(1), 7);
        check.due("tower", x.many(2), 3);
        check.due("readings", x.many(3), 2);
        check.due("what -1", x.many(-1), Check.OUTSIDE);
        check.due("what 4", x.many(4), Check.OUTSIDE);
        for (int wild : Check.WILD) {
            check.due("what " + wild, x.many(wild), Check.OUTSIDE);
        }
        x.build(5);
        check.due("tower as built", x.many(2), 5);
    }
}

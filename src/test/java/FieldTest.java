/** Promises 1 to 7: a new object, field, ofStander, walk, grow, build, shade. */
final class FieldTest {
    private static final Check check = new Check("FieldTest");

    public static void main(String[] args) {
        newObject();
        textsThatAreTaken();
        firstFaults();
        fieldRefusalsAndFaults();
        fieldMakesAllAnew();
        refusedFieldChangesNothing();
        standers();
        walkGrowBuild();
        shades();
        check.end();
    }

    private static void newObject() {
        SnowCensus x = new SnowCensus();
        for (int what = 0; what <= 3; what++) {
            check.due("new many(" + what + ")", x.many(what), 0);
        }
        check.due("new fault()", x.fault(), 0);
        check.due("new trace()", x.trace(), 0);
        for (int k = 0; k < 4; k++) {
            check.due("new lose", x.lose(k), 0);
        }
        check.due("new ofStander", x.ofStander(0, 0), Check.UNKNOWN);
        check.due("new walk", x.walk(0, 0), Check.UNKNOWN);
        check.due("new grow", x.grow(0, 0), Check.UNKNOWN);
        check.due("new shade", x.shade(0, 1), Check.UNKNOWN);
        check.due("new build", x.build(9), Check.STATE);
        check.due("new build outside", x.build(10), Check.OUTSIDE);
    }

    private static void textsThatAreTaken() {
        SnowCensus x = new SnowCensus();
        check.due("one", Check.lay(x, "f10;s00"), 1);
        check.due("two", Check.lay(x, "f99;p99;r12"), 2);
        check.due("span", x.many(1), 9);
        check.due("tower", x.many(2), 9);
        check.due("five", Check.lay(x, "f31;s25;s25;s25;r00;p99"), 5);
        check.due("standers", x.many(0), 5);
        Check.write(x, 1, 2, Check.codes("xxf52;r34yy"));
        check.due("from 2 on, as ints", x.field(1, 2, 2, 7), 1);
        check.due("its span", x.many(1), 5);
        check.due("its tower", x.many(2), 2);
        check.due("its kind", x.ofStander(0, 0), 1);
        check.due("its foot", x.ofStander(0, 1), 3);
        check.due("its height", x.ofStander(0, 2), 4);
        Check.write(x, 2, 1, Check.codes("f52;r34"));
        check.due("as shorts", x.field(2, 1, 0, 7), 1);
        Check.write(x, 2, 0, 102 + 256, 53 - 256, 50, 59, 114, 51, 52);
        check.due("cells that were cut to bytes", x.field(2, 0, 0, 7), 1);
        Check.write(x, 2, 2, 102 + 256, 53, 50, 59, 114, 51, 52);
        check.due("ints are not cut", x.field(2, 2, 0, 7), -100);
    }

    private static void fault(String text, int place) {
        SnowCensus x = new SnowCensus();
        check.due("field of \"" + text + '"', Check.lay(x, text), -100 - place);
        check.due("fault() behind it", x.fault(), 0);
        check.due("standers behind it", x.many(0), 0);
    }

    private static void firstFaults() {
        String whole = "f31;s25;r47;p09;s11;s22";
        for (int n = 0; n < whole.length(); n++) {
            boolean isText = n >= 7 && (n - 3) % 4 == 0;
            if (!isText) {
                fault(whole.substring(0, n), n);
            }
        }
        for (int place = 0; place < whole.length(); place++) {
            for (char c : new char[] {'x', 'S', 'F', '/', ':', 0, 255}) {
                fault(whole.substring(0, place) + c + whole.substring(place + 1), place);
            }
        }
        fault("f01;s25", 1);
        fault("f:1;s25", 1);
        fault("f3/;s25", 2);
        fault("f31ss25", 3);
        fault("f31;f25", 4);
        fault("f31;s25s", 7);
        fault(whole + ";", 23);
        fault(whole + ";s11", 23);
        fault(whole + "1", 23);
        fault("ff", 1);
    }

    private static void fieldRefusalsAndFaults() {
        SnowCensus x = new SnowCensus();
        Check.write(x, 0, 0, Check.codes("f31;s25"));
        check.due("sheet -1 ahead of lane", x.field(-1, 3, -1, -1), Check.UNKNOWN);
        check.due("sheet 4", x.field(4, 0, 0, 7), Check.UNKNOWN);
        check.due("lane -1", x.field(0, -1, 0, 7), Check.OUTSIDE);
        check.due("lane 3 ahead of NULL", x.field(1, 3, 0, 7), Check.OUTSIDE);
        check.due("CAST ahead of SIZE", x.field(0, 1, 0, -1), Check.CAST);
        check.due("fault()", x.fault(), 2);
        check.due("NULL, of any lane, ahead of SIZE", x.field(1, 2, 0, -1), Check.NULL);
        check.due("fault()", x.fault(), 1);
        check.due("SIZE ahead of INDEX", x.field(0, 0, -1, -1), Check.SIZE);
        check.due("fault()", x.fault(), 4);
        check.due("one beyond", x.field(0, 0, 0, 8), Check.INDEX);
        check.due("fault()", x.fault(), 3);
        check.due("from -1 on", x.field(0, 0, -1, 7), Check.INDEX);
        check.due("from 1 on", x.field(0, 0, 1, 7), Check.INDEX);
        check.due("none from -1 on", x.field(0, 0, -1, 0), Check.INDEX);
        check.due("none from 8 on", x.field(0, 0, 8, 0), Check.INDEX);
        check.due("none from 7 on", x.field(0, 0, 7, 0), -100);
        check.due("fault()", x.fault(), 0);
        for (int wild : Check.WILD) {
            check.due("i " + wild, x.field(0, 0, wild, 7), Check.INDEX);
            check.due("n " + wild, x.field(0, 0, 0, wild), wild < 0 ? Check.SIZE : Check.INDEX);
            check.due("n " + wild + " from 7 on", x.field(0, 0, 7, wild), wild < 0 ? Check.SIZE : Check.INDEX);
            check.due("sheet " + wild, x.field(wild, 0, 0, 7), Check.UNKNOWN);
            check.due("fault()", x.fault(), 0);
        }
        check.due("at last", x.field(0, 0, 0, 7), 1);
        check.due("fault()", x.fault(), 0);
    }

    private static void fieldMakesAllAnew() {
        SnowCensus x = Check.of("f31;s25;r47;p99");
        x.reading(1, 3);
        x.reading(2, 3);
        x.tell(0);
        Check.write(x, 2, 2, 7);
        check.due("a new one", Check.lay(x, "f20;p14"), 1);
        check.due("standers", x.many(0), 1);
        check.due("span", x.many(1), 2);
        check.due("tower", x.many(2), 0);
        check.due("no readings", x.many(3), 0);
        check.due("heights: all", x.heights(0), 1023);
        check.due("the second is gone", x.ofStander(1, 0), Check.UNKNOWN);
        check.due("trace stays", x.trace(), 1);
        check.due("sheets stay", x.cell(2, 0, 2), 7);
    }

    private static void refusedFieldChangesNothing() {
        SnowCensus x = Check.of("f31;s25;r47");
        x.reading(1, 3);
        Check.write(x, 0, 0, Check.codes("f94;p99;s1x"));
        check.due("a fault far behind", x.field(0, 0, 0, 11), -110);
        check.due("CAST", x.field(0, 1, 0, 7), Check.CAST);
        check.due("INDEX", x.field(0, 0, 5, 7), Check.INDEX);
        check.due("standers", x.many(0), 2);
        check.due("span", x.many(1), 3);
        check.due("tower", x.many(2), 1);
        check.due("readings", x.many(3), 1);
        check.due("kind", x.ofStander(0, 0), 0);
        check.due("foot", x.ofStander(0, 1), 2);
        check.due("height", x.ofStander(0, 2), 5);
    }

    private static void standers() {
        SnowCensus x = Check.of("f31;s25;r47;p09");
        int[][] want = {{0, 2, 5}, {1, 4, 7}, {2, 0, 9}};
        for (int a = 0; a < 3; a++) {
            for (int what = 0; what < 3; what++) {
                check.due("ofStander(" + a + ", " + what + ")", x.ofStander(a, what), want[a][what]);
            }
            check.due("what 3", x.ofStander(a, 3), Check.OUTSIDE);
            check.due("what -1", x.ofStander(a, -1), Check.OUTSIDE);
        }
        check.due("no stander 3, ahead of what", x.ofStander(3, 9), Check.UNKNOWN);
        check.due("no stander -1", x.ofStander(-1, 0), Check.UNKNOWN);
        for (int wild : Check.WILD) {
            check.due("stander " + wild, x.ofStander(wild, 0), Check.UNKNOWN);
            check.due("what " + wild, x.ofStander(0, wild), Check.OUTSIDE);
        }
    }

    private static void walkGrowBuild() {
        SnowCensus x = Check.of("f31;s25;r47");
        check.due("walk", x.walk(0, 9), 2);
        check.due("walk to where another is", x.walk(0, 4), 9);
        check.due("walk", x.walk(0, 0), 4);
        check.due("foot", x.ofStander(0, 1), 0);
        check.due("the other's foot", x.ofStander(1, 1), 4);
        check.due("grow", x.grow(1, 0), 7);
        check.due("grow", x.grow(1, 9), 0);
        check.due("height", x.ofStander(1, 2), 9);
        check.due("build", x.build(9), 1);
        check.due("build", x.build(0), 9);
        check.due("tower", x.many(2), 0);
        check.due("no stander ahead of foot", x.walk(2, 10), Check.UNKNOWN);
        check.due("no stander ahead of v", x.grow(-1, 10), Check.UNKNOWN);
        for (int v : new int[] {-1, 10, Integer.MIN_VALUE, Integer.MAX_VALUE}) {
            check.due("walk to " + v, x.walk(0, v), Check.OUTSIDE);
            check.due("grow to " + v, x.grow(0, v), Check.OUTSIDE);
            check.due("build " + v, x.build(v), Check.OUTSIDE);
            check.due("walk of " + v, x.walk(v, 0), Check.UNKNOWN);
            check.due("grow of " + v, x.grow(v, 0), Check.UNKNOWN);
        }
        check.due("foot as it was", x.ofStander(0, 1), 0);
        check.due("height as it was", x.ofStander(0, 2), 5);
        check.due("tower as it was", x.many(2), 0);
    }

    private static void shades() {
        SnowCensus x = Check.of("f31;s05;r05;p05;r00;p91");
        int[][] want = {{5, 10, 15}, {4, 9, 14}, {2, 5, 7}, {0, 0, 0}, {0, 1, 1}};
        for (int a = 0; a < 5; a++) {
            for (int sun = 1; sun <= 3; sun++) {
                check.due("shade(" + a + ", " + sun + ")", x.shade(a, sun), want[a][sun - 1]);
            }
            check.due("sun 0", x.shade(a, 0), Check.OUTSIDE);
            check.due("sun 4", x.shade(a, 4), Check.OUTSIDE);
        }
        check.due("no stander ahead of sun", x.shade(5, 0), Check.UNKNOWN);
        x.grow(1, 1);
        check.due("a rider of 1", x.shade(1, 1), 0);
        check.due("a rider of 1", x.shade(1, 3), 2);
        x.grow(0, 0);
        check.due("a stander of 0", x.shade(0, 3), 0);
        for (int wild : Check.WILD) {
            check.due("stander " + wild, x.shade(wild, 1), Check.UNKNOWN);
            check.due("sun " + wild, x.shade(0, wild), Check.OUTSIDE);
        }
    }
}

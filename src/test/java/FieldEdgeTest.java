/** The edges of promises 1 to 7: a new object, field, ofStander, walk, grow, build, shade. */
final class FieldEdgeTest {
    private static final Check check = new Check("FieldEdgeTest");
    private static final String FIVE = "f31;s25;r47;p09;s11;r22";

    public static void main(String[] args) {
        nothingAtFirst();
        everyCodeAtEveryPlace();
        howManyStanders();
        severalOnOneFoot();
        theFirstOfTwoFaults();
        endsTooSoon();
        sixthStander();
        placesAreOfTheText();
        cellsOfTheSheet();
        noCells();
        lanes();
        allAnew();
        notTaken();
        ofStanderEdges();
        walkEdges();
        growEdges();
        buildEdges();
        shadesOfStanders();
        shadesOfRiders();
        shadesOfPoles();
        check.end();
    }

    private static void nothingAtFirst() {
        check.by("No FIELD (no STANDERS), SHEETS have nothing.");
        SnowCensus x = new SnowCensus();
        for (int k = 0; k < 4; k++) {
            for (int lane = 0; lane <= 2; lane++) {
                check.due("cell of sheet " + k, x.cell(k, 0, lane), Check.LOST);
                check.due("fault()", x.fault(), 1);
            }
            check.due("put to sheet " + k, x.put(k, 0, 0), Check.NULL);
            check.due("lose(" + k + ")", x.lose(k), 0);
        }
        for (int a = -1; a <= 5; a++) {
            check.due("ofStander(" + a + ", 1)", x.ofStander(a, 1), Check.UNKNOWN);
        }
        check.due("fair()", x.fair(), Check.STATE);
        check.due("census(1)", x.census(1), Check.STATE);
        check.due("trace()", x.trace(), 0);
    }

    private static boolean goesOn(int place, int code) {
        String[] allowed = {"f", "123456789", "0123456789"};
        String[] ofStander = {";", "srp", "0123456789", "0123456789"};
        String here = place < 3 ? allowed[place] : ofStander[(place - 3) % 4];
        return code >= 0 && code < 128 && here.indexOf(code) >= 0;
    }

    private static void everyCodeAtEveryPlace() {
        check.by("the place (from 0 on) of the first code with which no TEXT goes on");
        int[] far = {Integer.MIN_VALUE, -154, 102 + 256, 49 + 256, 59 + 65536, 115 - 256, Integer.MAX_VALUE};
        for (int place = 0; place < FIVE.length(); place++) {
            for (int code = -1; code <= 256 + far.length; code++) {
                int sign = code <= 256 ? code : far[code - 257];
                SnowCensus x = new SnowCensus();
                Check.write(x, 0, 2, Check.codes(FIVE));
                x.put(0, place, sign);
                check.due("field with " + sign + " at " + place, x.field(0, 2, 0, 23),
                    goesOn(place, sign) ? 5 : -100 - place);
                check.due("fault()", x.fault(), 0);
            }
        }
    }

    private static void howManyStanders() {
        check.by("then 1 to 5 STANDERS, numbered from 0 on");
        SnowCensus x = new SnowCensus();
        check.due("none", Check.lay(x, "f31"), -103);
        for (int n = 1; n <= 5; n++) {
            check.due(n + " of them", Check.lay(x, FIVE.substring(0, 3 + 4 * n)), n);
            check.due("many(0)", x.many(0), n);
            check.due("the first", x.ofStander(0, 1), 2);
            check.dueTrue("the last", x.ofStander(n - 1, 1) >= 0);
            check.due("none behind it", x.ofStander(n, 1), Check.UNKNOWN);
            check.due("none ahead of the first", x.ofStander(-1, 1), Check.UNKNOWN);
        }
        check.due("six", Check.lay(x, FIVE + ";s33"), -123);
        check.due("many(0)", x.many(0), 5);
    }

    private static void severalOnOneFoot() {
        check.by("the FOOT on which one stands: several may");
        SnowCensus x = new SnowCensus();
        check.due("five on foot 9", Check.lay(x, "f10;s90;s90;r90;p90;s90"), 5);
        check.due("census(1)", x.census(1), 1);
    }

    private static void faultOf(String text, int place) {
        SnowCensus x = new SnowCensus();
        check.due("field of \"" + text + '"', Check.lay(x, text), -100 - place);
    }

    private static void theFirstOfTwoFaults() {
        check.by("FIRST FAULT");
        faultOf("xx", 0);
        faultOf("f0x", 1);
        faultOf("f3x;x", 2);
        faultOf("f31;s25;x47;s1y", 8);
        check.by("FIRST FAULT: the place (from 0 on) of the first code");
        faultOf("x", 0);
        faultOf("fx", 1);
        faultOf("f31;sx", 5);
        faultOf("f31;s25;", 8);
        faultOf("f31;s25;;", 8);
        faultOf("f31;s25;s", 9);
    }

    private static void endsTooSoon() {
        check.by("how many codes there are, if it just ends too soon");
        for (int n = 0; n <= FIVE.length(); n++) {
            boolean isWhole = n == 7 || n == 11 || n == 15 || n == 19 || n == 23;
            SnowCensus x = new SnowCensus();
            Check.write(x, 0, 0, Check.codes(FIVE));
            check.due("field of " + n + " codes", x.field(0, 0, 0, n), isWhole ? (n - 3) / 4 : -100 - n);
            check.due("fault()", x.fault(), 0);
        }
    }

    private static void sixthStander() {
        check.by("(the ; of a sixth STANDER)");
        faultOf(FIVE + ";", 23);
        faultOf(FIVE + ";s", 23);
        faultOf(FIVE + ";s33", 23);
        faultOf(FIVE + ";s33;s44", 23);
        faultOf(FIVE + "s", 23);
        faultOf(FIVE + "0", 23);
        faultOf(FIVE + FIVE, 23);
        faultOf((FIVE + ";s11;s22;s33;s44;s55;s66;s77;s88;s99;s00").substring(0, 60), 23);
        check.by("the first code with which no TEXT goes on");
        faultOf("f31;s25;r47;p09;s11;r2x;s33", 22);
    }

    private static void placesAreOfTheText() {
        check.by("the place (from 0 on)");
        for (int ahead = 0; ahead <= 5; ahead++) {
            SnowCensus x = new SnowCensus();
            String cells = "ffffff".substring(0, ahead) + "f31;x25";
            Check.write(x, 1, 1, Check.codes(cells));
            check.due("from " + ahead + " on", x.field(1, 1, ahead, 7), -104);
            check.due("from " + ahead + " on, too short", x.field(1, 1, ahead, 4), -104);
            check.due("from " + ahead + " on, none", x.field(1, 1, ahead, 0), -100);
        }
    }

    private static void cellsOfTheSheet() {
        check.by("INDEX: not all cells are there");
        SnowCensus x = new SnowCensus();
        x.sheet(3, 2, 60);
        int[] codes = Check.codes(FIVE);
        for (int c = 0; c < codes.length; c++) {
            x.put(3, 37 + c, codes[c]);
        }
        check.due("the last 23 of 60", x.field(3, 2, 37, 23), 5);
        check.due("one more", x.field(3, 2, 37, 24), Check.INDEX);
        check.due("one on", x.field(3, 2, 38, 23), Check.INDEX);
        check.due("one on, one less", x.field(3, 2, 38, 22), -100);
        check.due("one ahead, of noughts", x.field(3, 2, 36, 24), -100);
        check.due("all 60", x.field(3, 2, 0, 60), -100);
        check.due("61", x.field(3, 2, 0, 61), Check.INDEX);
        check.due("the last one", x.field(3, 2, 59, 1), -100);
        check.due("none behind the last", x.field(3, 2, 60, 0), -100);
        check.due("one behind the last", x.field(3, 2, 60, 1), Check.INDEX);
        check.due("sums that wrap", x.field(3, 2, 1, Integer.MAX_VALUE), Check.INDEX);
        check.due("sums that wrap", x.field(3, 2, Integer.MAX_VALUE, 1), Check.INDEX);
        check.due("sums that wrap", x.field(3, 2, Integer.MAX_VALUE, Integer.MAX_VALUE), Check.INDEX);
        check.due("many(0)", x.many(0), 5);
    }

    private static void noCells() {
        check.by("where i is not 0 .. how many there are, if none of them is taken, too");
        for (int n : new int[] {0, 1, 7, 60}) {
            SnowCensus x = new SnowCensus();
            x.sheet(0, 0, n);
            check.due("none of " + n + " from -1 on", x.field(0, 0, -1, 0), Check.INDEX);
            check.due("fault()", x.fault(), 3);
            check.due("none of " + n + " from 0 on", x.field(0, 0, 0, 0), -100);
            check.due("fault()", x.fault(), 0);
            check.due("none of " + n + " from " + n + " on", x.field(0, 0, n, 0), -100);
            check.due("none of " + n + " from " + (n + 1) + " on", x.field(0, 0, n + 1, 0), Check.INDEX);
            check.due("fault()", x.fault(), 3);
            check.by("SIZE: n is below 0");
            check.due("-1 of " + n, x.field(0, 0, 0, -1), Check.SIZE);
            check.due("fault()", x.fault(), 4);
            check.due("-1 of " + n + " from beyond on", x.field(0, 0, n + 1, -1), Check.SIZE);
        }
    }

    private static void lanes() {
        check.by("taken as a row of a LANE");
        for (int has = 0; has <= 2; has++) {
            for (int as = 0; as <= 2; as++) {
                SnowCensus x = new SnowCensus();
                Check.write(x, 0, has, Check.codes(FIVE));
                check.due(has + " as " + as, x.field(0, as, 0, 23), has == as ? 5 : Check.CAST);
                check.due("fault()", x.fault(), has == as ? 0 : 2);
                check.due("many(0)", x.many(0), has == as ? 5 : 0);
            }
        }
    }

    private static void allAnew() {
        check.by("A TEXT that is taken makes all anew: no READINGS.");
        SnowCensus x = Check.of(FIVE);
        for (int k = 0; k < 8; k++) {
            x.reading(1, 99);
        }
        x.walk(0, 9);
        x.grow(0, 1);
        x.build(7);
        check.due("no height is so", x.heights(0), 0);
        check.due("the same once more", x.field(0, 0, 0, 23), 5);
        check.due("readings", x.many(3), 0);
        check.due("back(1)", x.back(1), Check.OUTSIDE);
        check.due("heights", x.heights(0), 1023);
        check.due("tower", x.many(2), 1);
        check.due("foot", x.ofStander(0, 1), 2);
        check.due("height", x.ofStander(0, 2), 5);
        check.due("numbers from 0 on", x.reading(1, 1), 0);
        check.due("fewer", Check.lay(x, "f90;p00"), 1);
        check.due("the second is gone", x.shade(1, 1), Check.UNKNOWN);
        check.due("nor is it counted", x.census(1), 1);
        check.due("more", Check.lay(x, FIVE), 5);
        check.due("the last", x.ofStander(4, 0), 1);
    }

    private static void notTaken() {
        check.by("-100 less the FIRST FAULT");
        SnowCensus x = World.of(World.LAID);
        x.put(World.TEXT, 6, 58);
        check.due("its last code is none", x.field(World.TEXT, 0, 0, 7), -106);
        SnowCensus twin = World.of(World.LAID);
        twin.put(World.TEXT, 6, 58);
        check.dueText("nothing is changed", World.told(x), World.told(twin));
    }

    private static void ofStanderEdges() {
        check.by("Of a STANDER: 0 kind, 1 the FOOT, 2 HEIGHT.");
        SnowCensus x = Check.of("f10;s00;r99;p09;s90");
        int[][] want = {{0, 0, 0}, {1, 9, 9}, {2, 0, 9}, {0, 9, 0}};
        for (int a = -1; a <= 5; a++) {
            for (int what = -1; what <= 3; what++) {
                long due = a < 0 || a > 3 ? Check.UNKNOWN : what < 0 || what > 2 ? Check.OUTSIDE : want[a][what];
                check.due("ofStander(" + a + ", " + what + ")", x.ofStander(a, what), due);
            }
        }
    }

    private static void walkEdges() {
        check.by("A STANDER goes to a FOOT (0 .. 9): where one was.");
        SnowCensus x = Check.of("f10;s30;r40;s50;s60;s70");
        int was = 3;
        for (int foot : new int[] {0, 9, 9, 4, 4, 0}) {
            check.due("walk to " + foot, x.walk(0, foot), was);
            check.due("it stands there", x.ofStander(0, 1), foot);
            was = foot;
        }
        check.due("to -1", x.walk(0, -1), Check.OUTSIDE);
        check.due("to 10", x.walk(0, 10), Check.OUTSIDE);
        check.due("it stays", x.ofStander(0, 1), 0);
        check.due("the last", x.walk(4, 9), 7);
        check.due("no sixth", x.walk(5, 9), Check.UNKNOWN);
        check.due("the others stay", x.ofStander(1, 1), 4);
    }

    private static void growEdges() {
        check.by("HEIGHT of a STANDER becomes v (0 .. 9): what it was.");
        SnowCensus x = Check.of("f10;s03;r04;s05;s06;s07");
        int was = 3;
        for (int v : new int[] {0, 9, 9, 0}) {
            check.due("grow to " + v, x.grow(0, v), was);
            check.due("its height", x.ofStander(0, 2), v);
            check.due("its shade", x.shade(0, 3), 3 * v);
            was = v;
        }
        check.due("to -1", x.grow(0, -1), Check.OUTSIDE);
        check.due("to 10", x.grow(0, 10), Check.OUTSIDE);
        check.due("it stays", x.ofStander(0, 2), 0);
        check.due("the last", x.grow(4, 9), 7);
        check.due("no sixth", x.grow(5, 9), Check.UNKNOWN);
        check.due("the others stay", x.ofStander(1, 2), 4);
    }

    private static void buildEdges() {
        check.by("TOWER becomes v (0 .. 9): what it was.");
        SnowCensus x = Check.of("f15;s00");
        int was = 5;
        for (int v : new int[] {0, 9, 9, 0, 1}) {
            check.due("build(" + v + ")", x.build(v), was);
            check.due("many(2)", x.many(2), v);
            check.due("hidden(1)", x.hidden(1), v == 0 ? 0 : 1);
            was = v;
        }
        check.due("build(-1)", x.build(-1), Check.OUTSIDE);
        check.due("build(10)", x.build(10), Check.OUTSIDE);
        check.due("it stays", x.many(2), 1);
        check.by("STATE: there is no FIELD");
        SnowCensus none = new SnowCensus();
        check.due("build(0)", none.build(0), Check.STATE);
        check.due("build(9)", none.build(9), Check.STATE);
        check.due("build(10)", none.build(10), Check.OUTSIDE);
        check.due("build(-1)", none.build(-1), Check.OUTSIDE);
        check.due("many(2)", none.many(2), 0);
    }

    private static void shadesDue(char letter, int height, int... want) {
        SnowCensus x = Check.of("f10;" + letter + "0" + height);
        for (int sun = 0; sun <= 4; sun++) {
            long due = sun < 1 || sun > 3 ? Check.OUTSIDE : want[sun - 1];
            check.due(letter + " of " + height + " at " + sun, x.shade(0, sun), due);
            if (due >= 0) {
                check.due("so many and 1 are dark", x.runs(sun, 1), due + 1);
            }
        }
    }

    private static void shadesOfStanders() {
        check.by("of a STANDER HEIGHT times SUN");
        shadesDue('s', 0, 0, 0, 0);
        shadesDue('s', 1, 1, 2, 3);
        shadesDue('s', 9, 9, 18, 27);
    }

    private static void shadesOfRiders() {
        check.by("of a RIDER 1 less (0 at least)");
        shadesDue('r', 0, 0, 0, 0);
        shadesDue('r', 1, 0, 1, 2);
        shadesDue('r', 2, 1, 3, 5);
        shadesDue('r', 9, 8, 17, 26);
    }

    private static void shadesOfPoles() {
        check.by("of a POLE half of what a STANDER's is");
        shadesDue('p', 0, 0, 0, 0);
        shadesDue('p', 1, 0, 1, 1);
        shadesDue('p', 2, 1, 2, 3);
        shadesDue('p', 3, 1, 3, 4);
        shadesDue('p', 9, 4, 9, 13);
    }
}

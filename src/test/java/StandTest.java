/** Promises 13 and 14: pair, send. */
final class StandTest {
    private static final Check check = new Check("StandTest");

    public static void main(String[] args) {
        pairs();
        pairsRefused();
        sends();
        sendsRefused();
        check.end();
    }

    private static void pairDue(SnowCensus x, int a, int b, int sun, int census, int footA, int footB) {
        String call = "pair(" + a + ", " + b + ", " + sun + ", ";
        check.due(call + "0)", x.pair(a, b, sun, 0), census);
        check.due(call + "1)", x.pair(a, b, sun, 1), footA);
        check.due(call + "2)", x.pair(a, b, sun, 2), footB);
    }

    private static void pairs() {
        SnowCensus x = Check.of("f10;s90;s01");
        pairDue(x, 0, 1, 1, 2, 0, 0);
        pairDue(x, 1, 0, 1, 2, 0, 0);
        x.build(4);
        pairDue(x, 0, 1, 1, 2, 4, 4);
        pairDue(x, 0, 1, 2, 3, 8, 8);
        pairDue(x, 0, 1, 3, -9, -9, -9);
        x.build(9);
        pairDue(x, 0, 1, 1, 2, 9, 9);
        pairDue(x, 0, 1, 2, -9, -9, -9);
        // Only on 5 and 7 do two of 0 fill the gaps of a span of 5 on 4, 6, 8.
        SnowCensus gaps = Check.of("f50;s40;s60;s80;s00;s00");
        pairDue(gaps, 3, 4, 1, 1, 5, 7);
        pairDue(gaps, 4, 3, 1, 1, 5, 7);
        // One run of three feet is on 7 8 9: within it both add nothing.
        SnowCensus within = Check.of("f30;s72;s00;s01");
        pairDue(within, 1, 2, 1, 1, 7, 7);
        within.build(8);
        pairDue(within, 1, 2, 1, 1, 8, 8);
        check.due("nothing is changed", within.ofStander(1, 1), 0);
        check.due("nothing is changed", within.ofStander(2, 1), 0);
        // Feet 1 and 4, a span of 4: one of one foot, one of two feet are to make 1 .. 4 of it.
        SnowCensus unlike = Check.of("f40;s10;s40;s00;s01");
        pairDue(unlike, 2, 3, 1, 1, 1, 2);
        pairDue(unlike, 3, 2, 1, 1, 1, 3);
    }

    private static void pairsRefused() {
        SnowCensus x = Check.of("f10;s90;s01");
        check.due("no field", new SnowCensus().pair(0, 1, 1, 0), Check.UNKNOWN);
        check.due("one with oneself", x.pair(1, 1, 1, 0), Check.UNKNOWN);
        check.due("no stander ahead of sun", x.pair(0, 2, 0, 0), Check.UNKNOWN);
        check.due("no stander ahead of what", x.pair(2, 0, 1, 3), Check.UNKNOWN);
        check.due("oneself ahead of sun", x.pair(0, 0, 4, 3), Check.UNKNOWN);
        for (int bad : new int[] {0, 4, -1, Integer.MAX_VALUE, Integer.MIN_VALUE}) {
            check.due("sun " + bad, x.pair(0, 1, bad, 0), Check.OUTSIDE);
        }
        for (int bad : new int[] {-1, 3, Integer.MAX_VALUE, Integer.MIN_VALUE}) {
            check.due("what " + bad, x.pair(0, 1, 1, bad), Check.OUTSIDE);
        }
        for (int wild : Check.WILD) {
            check.due("a " + wild, x.pair(wild, 1, 1, 0), Check.UNKNOWN);
            check.due("b " + wild, x.pair(0, wild, 1, 0), Check.UNKNOWN);
        }
    }

    private static void sends() {
        SnowCensus x = Check.of("f10;s00;s20;s40;s61");
        check.due("as it is", x.send(1, 5), 0);
        check.due("of several the least", x.send(1, 4), 1);
        check.due("fewest: the one of two feet", x.send(1, 3), 8);
        check.due("the one of two feet and the first", x.send(1, 2), 9);
        check.due("two alone", x.send(1, 1), 11);
        check.due("none at all", x.send(1, 0), 15);
        check.due("never so many", x.send(1, 6), Check.NONE);
        check.due("never so many", x.send(1, 99), Check.NONE);
        x.build(1);
        check.due("who is hidden may stay", x.send(1, 0), 14);
        check.due("as it is", x.send(1, 4), 0);
        // 0 .. 2 by two ways; fewer go though the set is a greater number
        SnowCensus y = Check.of("f10;s00;s10;s20;s02");
        check.due("all in the shade of one", y.send(1, 3), 0);
        check.due("1 and the long one go", y.send(1, 2), 9);
        check.due("fewest ahead of least", Check.of("f10;s00;s20;s41").send(1, 2), 4);
        check.due("nothing is changed", y.many(0), 4);
    }

    private static void sendsRefused() {
        SnowCensus none = new SnowCensus();
        SnowCensus x = Check.of("f10;s00");
        check.due("no field", none.send(1, 0), Check.STATE);
        check.due("sun ahead of no field", none.send(0, 0), Check.OUTSIDE);
        check.due("v ahead of no field", none.send(1, 100), Check.OUTSIDE);
        check.due("v -1", x.send(1, -1), Check.OUTSIDE);
        check.due("v 100", x.send(1, 100), Check.OUTSIDE);
        check.due("v 99", x.send(1, 99), Check.NONE);
        check.due("sun 4", x.send(4, 0), Check.OUTSIDE);
        check.due("sun 0", x.send(0, 0), Check.OUTSIDE);
        for (int wild : Check.WILD) {
            check.due("sun " + wild, x.send(wild, 0), Check.OUTSIDE);
            check.due("v " + wild, x.send(1, wild), Check.OUTSIDE);
        }
    }
}

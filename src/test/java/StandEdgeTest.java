/** The edges of promises 13 and 14: pair, send. */
final class StandEdgeTest {
    private static final Check check = new Check("StandEdgeTest");

    public static void main(String[] args) {
        neitherIsHidden();
        hiddenOnesComeOut();
        theFirstAsARow();
        allOthersAsTheyStand();
        whoMakesAPair();
        numbersOfPair();
        pairChangesNothing();
        nobodyIsSent();
        everybodyIsSent();
        fewestAheadOfLeast();
        leastOfSeveral();
        neverSoMany();
        numbersOfSend();
        sendChangesNothing();
        check.end();
    }

    private static void pairDue(SnowCensus x, int a, int b, int sun, int... want) {
        for (int what = 0; what <= 2; what++) {
            String call = "pair(" + a + ", " + b + ", " + sun + ", " + what + ")";
            check.due(call, x.pair(a, b, sun, what), want[what]);
        }
    }

    private static void neitherIsHidden() {
        check.by("a FOOT 0 .. 9 for each so that neither is HIDDEN");
        SnowCensus x = Check.of("f10;s00;s00");
        for (int tower = 0; tower <= 9; tower++) {
            x.build(tower);
            for (int sun = 1; sun <= 3; sun++) {
                int feet = tower * sun;
                int[] want = feet <= 9 ? new int[] {1, feet, feet} : new int[] {-9, -9, -9};
                pairDue(x, 0, 1, sun, want);
            }
        }
    }

    private static void hiddenOnesComeOut() {
        check.by("so that neither is HIDDEN");
        SnowCensus x = Check.of("f14;s01;s11;s92");
        check.due("hidden they are not counted", x.census(1), 3);
        // Of 9 .. 11 and two feet each, 8 9 is one more; 9 10 and 10 11 could be in it, but 10 is no FOOT.
        pairDue(x, 0, 1, 1, 3, 9, 9);
        x.build(9);
        pairDue(x, 0, 1, 1, 3, 9, 9);
        check.due("they are where they were", x.hidden(1), 3);
    }

    private static void theFirstAsARow() {
        check.by("of several the first as a row; NONE: there are none");
        // All rows count 1: the first of all.
        pairDue(Check.of("f90;s00;s00"), 0, 1, 1, 1, 0, 0);
        // Foot 3 and foot 5 are left out of 2 .. 6: (3, 5) is ahead of (5, 3).
        SnowCensus gaps = Check.of("f50;s20;s40;s60;s00;s00");
        pairDue(gaps, 3, 4, 1, 1, 3, 5);
        pairDue(gaps, 4, 3, 1, 1, 3, 5);
        // The FOOT of the one who is named first goes first, though its number is the greater one.
        SnowCensus unlike = Check.of("f40;s10;s40;s00;s01");
        pairDue(unlike, 2, 3, 1, 1, 1, 2);
        pairDue(unlike, 3, 2, 1, 1, 1, 3);
        // The last row of all is the only one.
        SnowCensus last = Check.of("f13;s00;s00");
        pairDue(last, 0, 1, 3, 1, 9, 9);
        // A later row that counts less is taken: on 7 and 7 both are within 7 8 9.
        SnowCensus later = Check.of("f30;s72;s01;s01");
        pairDue(later, 1, 2, 1, 1, 7, 7);
    }

    private static void allOthersAsTheyStand() {
        check.by("CENSUS is the least (all others as they stand)");
        SnowCensus x = Check.of("f11;s09;s30;s30;s90");
        // STANDER 0 is hidden and counts nothing; 3 on foot 9 does.
        pairDue(x, 1, 2, 1, 1, 9, 9);
        x.build(0);
        pairDue(x, 1, 2, 1, 10, 0, 0);
        x.walk(3, 5);
        x.build(1);
        pairDue(x, 1, 2, 1, 1, 5, 5);
    }

    private static void whoMakesAPair() {
        check.by("UNKNOWN: STANDERS, one with oneself");
        SnowCensus five = Check.of("f10;s00;s00;s00;s00;s00");
        for (int a = -1; a <= 5; a++) {
            for (int b = -1; b <= 5; b++) {
                boolean isPair = a != b && a >= 0 && a <= 4 && b >= 0 && b <= 4;
                check.due("pair(" + a + ", " + b + ")", five.pair(a, b, 1, 0), isPair ? 1 : Check.UNKNOWN);
            }
        }
        SnowCensus one = Check.of("f10;s00");
        check.due("one alone", one.pair(0, 0, 1, 0), Check.UNKNOWN);
        check.due("no second", one.pair(0, 1, 1, 0), Check.UNKNOWN);
        check.due("oneself, and no sun", one.pair(0, 0, 0, 9), Check.UNKNOWN);
    }

    private static void numbersOfPair() {
        check.by("OUTSIDE: sun (1 .. 3), what");
        SnowCensus x = Check.of("f10;s20;s30");
        for (int sun = 0; sun <= 4; sun++) {
            for (int what = -1; what <= 3; what++) {
                boolean isRight = sun >= 1 && sun <= 3 && what >= 0 && what <= 2;
                int due = isRight ? (what == 0 ? 1 : 0) : Check.OUTSIDE;
                check.due("pair(0, 1, " + sun + ", " + what + ")", x.pair(0, 1, sun, what), due);
            }
        }
        x.build(9);
        check.due("NONE is no OUTSIDE", x.pair(0, 1, 3, 2), Check.NONE);
        check.due("OUTSIDE is no NONE", x.pair(0, 1, 3, 3), Check.OUTSIDE);
    }

    private static void pairChangesNothing() {
        check.by("all others as they stand");
        SnowCensus x = World.of(World.LAID);
        x.pair(0, 1, 1, 0);
        x.pair(2, 0, 3, 2);
        check.dueText("behind pairs", World.told(x), World.told(World.of(World.LAID)));
    }

    private static void nobodyIsSent() {
        check.by("the fewest STANDERS who are to go indoors");
        SnowCensus x = Check.of("f10;s00;s20;s40;s60;s80");
        check.due("it is so now", x.send(1, 5), 0);
        x.build(9);
        check.due("all are hidden", x.send(1, 0), 0);
        check.due("one of no use", Check.of("f10;s00;s00").send(1, 1), 0);
    }

    private static void everybodyIsSent() {
        check.by("(they are no longer there)");
        check.due("one of one", Check.of("f10;s00").send(1, 0), 1);
        check.due("five of five", Check.of("f10;s00;s20;s40;s60;s80").send(1, 0), 31);
        check.due("all but who is hidden", Check.of("f11;s20;s00;s40").send(1, 0), 5);
        check.due("all on one foot", Check.of("f10;s00;s00;s00").send(3, 0), 7);
    }

    private static void fewestAheadOfLeast() {
        check.by("SEND at a SUN for v: the fewest STANDERS");
        // To be 2: the one of two feet (the set 4), or both of one foot (the set 3, a lesser number).
        SnowCensus x = Check.of("f10;s00;s20;s41");
        check.due("one ahead of two", x.send(1, 2), 4);
        // To be 1: the last of three feet and one of the others; never by one alone.
        SnowCensus y = Check.of("f10;s00;s20;s42");
        check.due("two ahead of none", y.send(1, 1), 5);
        check.due("to be 3: both of one foot, not the set 4", y.send(1, 3), 3);
        // One of four alone makes 4 of 8, three others do so, too.
        SnowCensus z = Check.of("f10;s00;s20;s41;s63");
        check.due("the last alone", z.send(1, 4), 8);
    }

    private static void leastOfSeveral() {
        check.by("as a set: of several the least");
        SnowCensus x = Check.of("f10;s00;s20;s40;s60;s80");
        int[] want = {31, 15, 7, 3, 1, 0};
        for (int v = 0; v <= 5; v++) {
            check.due("send(1, " + v + ")", x.send(1, v), want[v]);
        }
        SnowCensus y = Check.of("f10;s01;s30;s50");
        check.due("the second or the third", y.send(1, 3), 2);
        check.due("the first", y.send(1, 2), 1);
    }

    private static void neverSoMany() {
        check.by("of several the least; NONE: there are none");
        SnowCensus x = Check.of("f10;s01;s31");
        int[] want = {3, Check.NONE, 1, Check.NONE, 0, Check.NONE};
        for (int v = 0; v <= 5; v++) {
            check.due("send(1, " + v + ")", x.send(1, v), want[v]);
        }
        // Who goes may make two of one: 0 .. 4 is one run of 5 by a span of 5; without its midst two.
        SnowCensus y = Check.of("f50;s01;s20;s31");
        check.due("one run", y.send(1, 1), 0);
        check.due("two of it", y.send(1, 2), 2);
    }

    private static void numbersOfSend() {
        check.by("OUTSIDE: sun (1 .. 3), v (0 .. 99); STATE: there is no FIELD");
        SnowCensus x = Check.of("f10;s00");
        SnowCensus none = new SnowCensus();
        for (int sun = 0; sun <= 4; sun++) {
            for (int v : new int[] {-1, 0, 1, 2, 98, 99, 100}) {
                boolean isRight = sun >= 1 && sun <= 3 && v >= 0 && v <= 99;
                int due = isRight ? (v == 0 ? 1 : v == 1 ? 0 : Check.NONE) : Check.OUTSIDE;
                check.due("send(" + sun + ", " + v + ")", x.send(sun, v), due);
                check.due("send without a field", none.send(sun, v), isRight ? Check.STATE : Check.OUTSIDE);
            }
        }
        check.due("the most there can be", Check.of("f10;s09;s99").send(3, 37), 0);
    }

    private static void sendChangesNothing() {
        check.by("who are to go indoors");
        SnowCensus x = World.of(World.LAID);
        x.send(1, 0);
        x.send(2, 1);
        x.send(3, 99);
        check.dueText("behind sends", World.told(x), World.told(World.of(World.LAID)));
    }
}

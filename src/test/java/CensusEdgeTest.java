/** The edges of promises 8 to 12: hidden, census, runs, fair, walks. */
final class CensusEdgeTest {
    private static final Check check = new Check("CensusEdgeTest");
    private static final int[] WHATS = {0, 1, 2, 3, 10, 11, 12, 13, 14};

    public static void main(String[] args) {
        hiddenFeet();
        hiddenIsASet();
        whereRunsEnd();
        spansOfARun();
        eachRunByItself();
        shadowsOfTheHidden();
        noRuns();
        need();
        fairOfSeveral();
        suns();
        howManyWalks();
        whatOfWalks();
        cellsOfWalks();
        noCellsOfWalks();
        firstWrong();
        anotherStandsThen();
        steps();
        noSteps();
        pairByPair();
        cellsCutToTheirLane();
        walksChangeNothing();
        check.end();
    }

    private static void hiddenFeet() {
        check.by("on one of the FEET 0, 1, .., as many as TOWER times SUN");
        SnowCensus x = Check.of("f10;s00");
        for (int tower = 0; tower <= 9; tower++) {
            x.build(tower);
            for (int sun = 1; sun <= 3; sun++) {
                int feet = tower * sun;
                for (int foot : new int[] {0, feet - 1, feet, feet + 1, 9}) {
                    if (foot >= 0 && foot <= 9) {
                        x.walk(0, foot);
                        String where = "on " + foot + ", tower " + tower + ", sun " + sun;
                        check.due("hidden " + where, x.hidden(sun), foot <= feet - 1 ? 1 : 0);
                        check.due("census " + where, x.census(sun), foot <= feet - 1 ? 0 : 1);
                    }
                }
            }
        }
    }

    private static void hiddenIsASet() {
        check.by("Sets are told as bits (bit k for number k).");
        for (int k = 0; k < 5; k++) {
            SnowCensus x = Check.of("f13;s30;s30;s30;s30;s30");
            check.due("none is hidden", x.hidden(1), 0);
            x.walk(k, 2);
            check.due("number " + k + " is", x.hidden(1), 1 << k);
            check.due("all are", x.hidden(2), 31);
        }
    }

    private static void rowDue(SnowCensus x, int sun, int census, int runs, int longest, int need) {
        check.due("census(" + sun + ")", x.census(sun), census);
        check.due("runs(" + sun + ", 0)", x.runs(sun, 0), runs);
        check.due("runs(" + sun + ", 1)", x.runs(sun, 1), longest);
        check.due("runs(" + sun + ", 2)", x.runs(sun, 2), need);
    }

    private static void whereRunsEnd() {
        check.by("DARK FEET one behind another, none ahead of them, none behind them");
        rowDue(Check.of("f90;s01;s10"), 1, 1, 1, 2, 2);
        rowDue(Check.of("f90;s01;s20"), 1, 1, 1, 3, 3);
        rowDue(Check.of("f90;s01;s30"), 1, 2, 2, 2, 4);
        rowDue(Check.of("f90;s01;s40"), 1, 2, 2, 2, 5);
        check.by("the longest of them");
        rowDue(Check.of("f90;s02;s51"), 1, 2, 2, 3, 7);
        rowDue(Check.of("f90;s01;s52"), 1, 2, 2, 3, 8);
        rowDue(Check.of("f90;s01;s31;s61"), 1, 3, 3, 2, 8);
        rowDue(Check.of("f90;s00;s20;s40;s60;s80"), 3, 5, 5, 1, 9);
        // A short shadow within a long one makes no end of it.
        rowDue(Check.of("f90;s06;s20"), 1, 1, 1, 7, 7);
    }

    private static void spansOfARun() {
        check.by("A run counts 1 for each SPAN of FEET, and 1 for what is left over.");
        for (int span = 1; span <= 9; span++) {
            SnowCensus x = Check.of("f" + span + "0;s00");
            for (int height = 0; height <= 9; height++) {
                x.grow(0, height);
                for (int sun = 1; sun <= 3; sun++) {
                    int count = 0;
                    for (int left = height * sun + 1; left > 0; left -= span) {
                        count++;
                    }
                    check.due("span " + span + ", " + (height * sun + 1) + " feet", x.census(sun), count);
                }
            }
        }
        // One below the span, the span itself, one above it; twice it, and one above that.
        int[] feet = {3, 4, 5, 8, 9};
        int[] want = {1, 1, 2, 2, 3};
        for (int k = 0; k < feet.length; k++) {
            SnowCensus x = Check.of("f40;s0" + (feet[k] - 1));
            check.due(feet[k] + " feet by 4", x.census(1), want[k]);
        }
    }

    private static void eachRunByItself() {
        check.by("CENSUS at a SUN: what all runs count.");
        rowDue(Check.of("f30;s03;s53"), 1, 4, 2, 4, 9);
        rowDue(Check.of("f90;s00;s20;s40;s60;s80"), 1, 5, 5, 1, 9);
        rowDue(Check.of("f10;s00;s20;s40;s60;s80"), 1, 5, 5, 1, 9);
    }

    private static void shadowsOfTheHidden() {
        check.by("Of all others all FEET that are DARK together");
        rowDue(Check.of("f11;s09;s90"), 1, 1, 1, 1, 10);
        rowDue(Check.of("f11;s09;s10"), 1, 1, 1, 1, 2);
        // Hidden at 2 alone, whose shadow would have been the longest.
        SnowCensus x = Check.of("f11;s19;s80");
        rowDue(x, 1, 10, 1, 10, 11);
        rowDue(x, 2, 1, 1, 1, 9);
    }

    private static void noRuns() {
        check.by("the longest of them (1; 0: there is none)");
        SnowCensus x = Check.of("f13;s09;s29");
        rowDue(x, 1, 0, 0, 0, 0);
        x.build(2);
        rowDue(x, 1, 10, 1, 10, 12);
    }

    private static void need() {
        check.by("the last FOOT that is DARK (by those who are not HIDDEN), and 1; 0: none is");
        SnowCensus x = Check.of("f10;s00");
        check.due("foot 0", x.runs(1, 2), 1);
        x.build(1);
        check.due("none", x.runs(1, 2), 0);
        x.walk(0, 1);
        check.due("foot 1", x.runs(1, 2), 2);
        check.by("FEET 0, 1, .., as many as need be");
        SnowCensus far = Check.of("f10;s99;s00");
        check.due("feet 9 .. 36", far.runs(3, 2), 37);
        rowDue(far, 3, 29, 2, 28, 37);
        check.due("a rider's 9 .. 35", Check.of("f10;r99").runs(3, 2), 36);
        check.due("a pole's 9 .. 22", Check.of("f10;p99").runs(3, 2), 23);
        SnowCensus most = Check.of("f10;s09;s99");
        rowDue(most, 3, 37, 1, 37, 37);
    }

    private static void fairOfSeveral() {
        check.by("the least off how many STANDERS there are: of several the least");
        check.due("off 0, 0, 0", Check.of("f90;s00").fair(), 1);
        check.due("off 1, 1, 1: all are hidden", Check.of("f19;s00").fair(), 1);
        check.due("off 1, 1, 3: one below, one above", Check.of("f10;r02;s00;s00").fair(), 1);
        check.due("off 3, 1, 1: one below, one above", Check.of("f10;r02;s00;s00;s00;s00").fair(), 2);
        check.due("off 1, 2, 1: above, then below", Check.of("f12;s51;s90").fair(), 1);
        check.due("off 0, 2, 4", Check.of("f10;r02;s00").fair(), 1);
        check.due("off 2, 0, 2", Check.of("f10;r02;s00;s00;s00").fair(), 2);
        check.due("off 2, 1, 0", Check.of("f10;s01;s00;s00;s00").fair(), 3);
        check.due("off 9, 18, 27", Check.of("f10;s09").fair(), 1);
    }

    private static void suns() {
        check.by("at a SUN (1 .. 3)");
        SnowCensus x = Check.of("f10;s01");
        int[] due = {Check.OUTSIDE, 2, 3, 4, Check.OUTSIDE};
        for (int sun = 0; sun <= 4; sun++) {
            boolean isSun = sun >= 1 && sun <= 3;
            check.due("census(" + sun + ")", x.census(sun), due[sun]);
            check.due("hidden(" + sun + ")", x.hidden(sun), isSun ? 0 : Check.OUTSIDE);
            for (int what = -1; what <= 3; what++) {
                boolean isWhat = what >= 0 && what <= 2;
                check.due("runs(" + sun + ", " + what + ")", x.runs(sun, what),
                    !isSun || !isWhat ? Check.OUTSIDE : what == 0 ? 1 : due[sun]);
            }
        }
    }

    /** As many pairs as are told: STANDER 0 goes from foot to foot. */
    private static int[] toAndFro(int n, int... feet) {
        int[] cells = new int[2 * n];
        for (int k = 0; k < n; k++) {
            cells[2 * k + 1] = feet[k % feet.length];
        }
        return cells;
    }

    private static void walksDue(SnowCensus x, String text, int[] pairs, int what, int want) {
        Check.write(x, 1, 0, pairs);
        check.due(text + ", what " + what, x.walks(1, 1, 0, 0, pairs.length / 2, what), want);
        check.due("fault()", x.fault(), 0);
    }

    private static void allDue(SnowCensus x, String text, int[] pairs, int... want) {
        Check.write(x, 1, 0, pairs);
        for (int k = 0; k < WHATS.length; k++) {
            check.due(text + ", what " + WHATS[k], x.walks(1, 1, 0, 0, pairs.length / 2, WHATS[k]), want[k]);
        }
    }

    private static void howManyWalks() {
        check.by("n (0 .. 20)");
        SnowCensus x = Check.of("f10;s00;s90");
        Check.write(x, 1, 0, toAndFro(21, 1, 0));
        check.due("-1 walks", x.walks(1, 1, 0, 0, -1, 2), Check.OUTSIDE);
        check.due("fault()", x.fault(), 0);
        check.due("no walk", x.walks(1, 1, 0, 0, 0, 2), 0);
        check.due("no walk is wrong", x.walks(1, 1, 0, 0, 0, 1), Check.NONE);
        check.due("one walk", x.walks(1, 1, 0, 0, 1, 2), 1);
        check.due("19 walks", x.walks(1, 1, 0, 0, 19, 2), 19);
        check.due("20 walks", x.walks(1, 1, 0, 0, 20, 2), 20);
        check.due("21 walks", x.walks(1, 1, 0, 0, 21, 2), Check.OUTSIDE);
        check.due("fault()", x.fault(), 0);
        check.due("21 walks that are not there", x.walks(1, 1, 0, 40, 21, 2), Check.OUTSIDE);
        check.due("20 walks that are not there", x.walks(1, 1, 0, 40, 20, 2), Check.INDEX);
    }

    private static void whatOfWalks() {
        check.by("where STANDER a stands then (10 and a; NONE: there is no such STANDER)");
        allDue(Check.of("f12;s90"), "one", new int[] {0, 1}, 0, -9, 8, 1, 1, -9, -9, -9, -9);
        allDue(Check.of("f12;s90;s80;s70;s60;s50"), "five", new int[] {4, 1, 1, 0},
            3, -9, 12, 18, 9, 0, 7, 6, 1);
        check.by("what (0 .. 3, 10 .. 14)");
        SnowCensus x = Check.of("f12;s90;s80;s70;s60;s50");
        x.sheet(1, 0, 0);
        for (int what = -2; what <= 17; what++) {
            boolean isWhat = what >= 0 && what <= 3 || what >= 10 && what <= 14;
            int got = x.walks(1, 1, 0, 0, 0, what);
            check.dueTrue("what " + what + " answered " + got, (got == Check.OUTSIDE) != isWhat);
        }
    }

    private static void cellsOfWalks() {
        check.by("cells of a SHEET from i on (2 n)");
        SnowCensus x = Check.of("f10;s00;s90");
        x.sheet(2, 2, 60);
        check.due("20 from 20 on, of 60", x.walks(1, 2, 2, 20, 20, 2), 0);
        check.due("20 from 21 on", x.walks(1, 2, 2, 21, 20, 2), Check.INDEX);
        check.due("fault()", x.fault(), 3);
        check.due("19 from 22 on", x.walks(1, 2, 2, 22, 19, 2), 0);
        check.due("fault()", x.fault(), 0);
        check.due("one from 58 on", x.walks(1, 2, 2, 58, 1, 2), 0);
        check.due("one from 59 on: half a pair", x.walks(1, 2, 2, 59, 1, 2), Check.INDEX);
        Check.write(x, 3, 1, 7, 0, 8, 0, 77);
        check.due("what is ahead and behind is not looked at", x.walks(1, 3, 1, 1, 1, 2), 8);
        check.due("the first ahead of it", x.walks(1, 3, 1, 0, 1, 2), Check.UNKNOWN);
        check.due("the second behind it", x.walks(1, 3, 1, 1, 2, 2), Check.OUTSIDE);
    }

    private static void noCellsOfWalks() {
        check.by("where i is not 0 .. how many there are, if none of them is taken, too");
        for (int cells : new int[] {0, 1, 60}) {
            SnowCensus x = Check.of("f10;s00");
            x.sheet(1, 1, cells);
            check.due("none from -1 on", x.walks(1, 1, 1, -1, 0, 2), Check.INDEX);
            check.due("fault()", x.fault(), 3);
            check.due("none from 0 on", x.walks(1, 1, 1, 0, 0, 2), 0);
            check.due("fault()", x.fault(), 0);
            check.due("none from " + cells + " on", x.walks(1, 1, 1, cells, 0, 2), 0);
            check.due("none from " + (cells + 1) + " on", x.walks(1, 1, 1, cells + 1, 0, 2), Check.INDEX);
            check.due("fault()", x.fault(), 3);
        }
    }

    private static void firstWrong() {
        check.by("of those with a FIRST WRONG: -100 less that (but what 1)");
        SnowCensus x = Check.of("f10;s00;s90");
        for (int wrong = 0; wrong < 20; wrong++) {
            int[] pairs = toAndFro(20, 1, 0);
            pairs[2 * wrong + 1] = 9;
            pairs[39] = 9;
            for (int what : WHATS) {
                walksDue(x, "wrong at " + wrong, pairs, what, what == 1 ? wrong : -100 - wrong);
            }
        }
        check.by("the FIRST WRONG (1; NONE)");
        walksDue(x, "none is wrong", toAndFro(20, 1, 0), 1, Check.NONE);
    }

    private static void anotherStandsThen() {
        check.by("the first to a FOOT on which another one stands then");
        SnowCensus x = Check.of("f11;s00;s50;s50;s90");
        walksDue(x, "to one's own foot", new int[] {3, 9}, 1, Check.NONE);
        walksDue(x, "to one's own foot, where another is", new int[] {1, 5}, 1, 0);
        walksDue(x, "away from where another is", new int[] {1, 6}, 1, Check.NONE);
        walksDue(x, "behind one who left", new int[] {3, 8, 0, 9}, 1, Check.NONE);
        walksDue(x, "behind one of two who left", new int[] {1, 6, 3, 5}, 1, 1);
        walksDue(x, "behind both who left", new int[] {1, 6, 2, 7, 3, 5}, 1, Check.NONE);
        walksDue(x, "to where one came", new int[] {3, 8, 0, 8}, 1, 1);
        walksDue(x, "to one who is hidden", new int[] {3, 0}, 1, 0);
        walksDue(x, "back again", new int[] {3, 8, 3, 9}, 1, Check.NONE);
        walksDue(x, "to the last one", new int[] {0, 9}, 1, 0);
    }

    private static void steps() {
        check.by("by as many STEPS as it is off");
        SnowCensus x = Check.of("f10;s00");
        walksDue(x, "none", new int[] {0, 0}, 2, 0);
        walksDue(x, "9 on", new int[] {0, 9}, 2, 9);
        walksDue(x, "9 on and 9 back", new int[] {0, 9, 0, 0}, 2, 18);
        walksDue(x, "20 times 9", toAndFro(20, 9, 0), 2, 180);
        x.walk(0, 5);
        check.by("from how all stand now");
        walksDue(x, "5 back", new int[] {0, 0}, 2, 5);
        walksDue(x, "4 on", new int[] {0, 9}, 2, 4);
    }

    private static void pairByPair() {
        check.by("pair by pair UNKNOWN: a cell is no STANDER, OUTSIDE: no FOOT 0 .. 9");
        SnowCensus x = Check.of("f10;s00;s90");
        walksDue(x, "the last stander", new int[] {1, 8}, 2, 1);
        walksDue(x, "one above the last", new int[] {2, 8}, 2, Check.UNKNOWN);
        walksDue(x, "one below the first", new int[] {-1, 8}, 2, Check.UNKNOWN);
        walksDue(x, "foot -1", new int[] {0, -1}, 2, Check.OUTSIDE);
        walksDue(x, "foot 10", new int[] {0, 10}, 2, Check.OUTSIDE);
        walksDue(x, "both of one pair", new int[] {2, 10}, 2, Check.UNKNOWN);
        walksDue(x, "the first pair's foot", new int[] {0, 10, 2, 1}, 2, Check.OUTSIDE);
        walksDue(x, "the second pair's stander", new int[] {0, 1, 2, 1}, 2, Check.UNKNOWN);
        walksDue(x, "the first pair's stander", new int[] {2, 1, 0, 10}, 2, Check.UNKNOWN);
        walksDue(x, "behind a FIRST WRONG, too", new int[] {0, 9, 2, 1}, 1, Check.UNKNOWN);
        walksDue(x, "behind a FIRST WRONG, too", new int[] {0, 9, 0, 10}, 1, Check.OUTSIDE);
        int[] last = toAndFro(20, 1, 0);
        last[39] = 10;
        walksDue(x, "the last of 20", last, 2, Check.OUTSIDE);
        SnowCensus five = Check.of("f10;s00;s10;s20;s30;s40");
        walksDue(five, "the fifth", new int[] {4, 9}, 2, 5);
        walksDue(five, "a sixth", new int[] {5, 9}, 2, Check.UNKNOWN);
    }

    private static void cellsCutToTheirLane() {
        check.by("what comes to a cell of it is cut to its LANE");
        SnowCensus x = Check.of("f10;s00;s90");
        int[] want = {7, Check.UNKNOWN, Check.UNKNOWN};
        for (int lane = 0; lane <= 2; lane++) {
            Check.write(x, 2, lane, 256 + 1, 256 + 2);
            check.due("256 and 1, of lane " + lane, x.walks(1, 2, lane, 0, 1, 2), want[lane]);
        }
        Check.write(x, 2, 1, 65536 + 1, 65536 + 2);
        check.due("65536 and 1, of shorts", x.walks(1, 2, 1, 0, 1, 2), 7);
        Check.write(x, 2, 2, 65536 + 1, 65536 + 2);
        check.due("65536 and 1, of ints", x.walks(1, 2, 2, 0, 1, 2), Check.UNKNOWN);
    }

    private static void walksChangeNothing() {
        check.by("(nothing is changed)");
        for (int what : WHATS) {
            SnowCensus x = World.of(World.LAID);
            x.walks(3, World.PAIRS, 2, 0, 2, what);
            x.walks(3, World.PAIRS, 2, 2, 1, what);
            x.walks(3, World.PAIRS, 2, 10, 1, what);
            check.dueText("behind what " + what, World.told(x), World.told(World.of(World.LAID)));
        }
        check.by("CENSUS behind them (what 0)");
        SnowCensus x = Check.of("f11;s02;s50");
        Check.write(x, 1, 0, 0, 2);
        int[] census = {4, 5, 1};
        int[] hidden = {0, 0, 1};
        for (int sun = 1; sun <= 3; sun++) {
            check.due("census at " + sun, x.walks(sun, 1, 0, 0, 1, 0), census[sun - 1]);
            check.due("hidden at " + sun, x.walks(sun, 1, 0, 0, 1, 3), hidden[sun - 1]);
        }
    }

    /** No STEPS are no wrong: what is asked is told as it is now. */
    private static void noSteps() {
        check.by("from how all stand now");
        SnowCensus x = Check.of("f12;s10;s80;r82");
        int[] now = {2, Check.NONE, 0, 1, 1, 8, 8, Check.NONE, Check.NONE};
        allDue(x, "no walk", new int[0], now);
        allDue(x, "a walk of no steps", new int[] {0, 1}, now);
        allDue(x, "20 walks of no steps", toAndFro(20, 1), now);
    }
}

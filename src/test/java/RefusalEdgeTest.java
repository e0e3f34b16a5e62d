import java.util.ArrayList;
import java.util.Arrays;
import java.util.List;

/**
 * The REFUSALS and FAULTS of every call: each alone, on its edge and far off it, and each two at once, of
 * which the one that is told first answers; what fault() tells behind it, and that nothing else is changed.
 */
final class RefusalEdgeTest {
    private static final Check check = new Check("RefusalEdgeTest");
    private static final int LEAST = Integer.MIN_VALUE, MOST = Integer.MAX_VALUE;
    private static final int[] NO_SHEET = {-1, 4, LEAST, MOST}, NO_STANDER = {-1, World.STANDERS, LEAST, MOST};
    private static final int[] NO_LANE = {-1, 3, LEAST, MOST}, NO_SUN = {0, 4, -1, LEAST, MOST};
    private static final int[] NO_DIGIT = {-1, 10, LEAST, MOST}, NO_COUNT = {-1, 100, LEAST, MOST};

    /** What is wrong with a call: one of its numbers, or (place -1) the world in which it is made. */
    private record Flaw(int answer, int place, int value) {
    }

    private interface Body {
        long on(SnowCensus x, int[] v);
    }

    /** A call that is right by its numbers, and its flaws in the order in which the document tells them. */
    private static final class Call {
        final String name;
        final Body body;
        final int[] right;
        final List<Flaw> flaws = new ArrayList<>();
        boolean namesFaults;
        boolean answersLost;
        boolean changes;

        Call(String name, Body body, int... right) {
            this.name = name;
            this.body = body;
            this.right = right;
        }

        Call namesFaults() {
            namesFaults = true;
            return this;
        }

        Call answersLost() {
            answersLost = true;
            return this;
        }

        Call changes() {
            changes = true;
            return this;
        }

        Call flaw(int answer, int place, int... values) {
            for (int value : values) {
                flaws.add(new Flaw(answer, place, value));
            }
            return this;
        }

        Call in(int world, int answer) {
            return flaw(answer, -1, world);
        }
    }

    public static void main(String[] args) {
        List<Call> calls = new ArrayList<>();
        addField(calls);
        addCensus(calls);
        addStand(calls);
        addCounted(calls);
        addSheets(calls);
        addParts(calls);
        for (Call call : calls) {
            right(call);
            eachAlone(call);
            twoAtOnce(call);
        }
        check.due("all calls but fair, trace, fault", calls.size(), 30 - 3);
        withoutNumbers();
        nothingIsNoCast();
        check.end();
    }

    private static void addField(List<Call> calls) {
        calls.add(new Call("field", (x, v) -> x.field(v[0], v[1], v[2], v[3]), World.TEXT, 0, 0, 7)
            .namesFaults().changes()
            .flaw(Check.UNKNOWN, 0, NO_SHEET).flaw(Check.OUTSIDE, 1, NO_LANE)
            .flaw(Check.CAST, 1, 1, 2).flaw(Check.NULL, 0, World.NOTHING)
            .flaw(Check.SIZE, 3, -1, LEAST)
            .flaw(Check.INDEX, 2, -1, 8, LEAST, MOST).flaw(Check.INDEX, 3, 8, MOST)
            .flaw(-106, 3, 6));
        calls.add(new Call("ofStander", (x, v) -> x.ofStander(v[0], v[1]), 0, 0)
            .flaw(Check.UNKNOWN, 0, NO_STANDER).in(World.BARE, Check.UNKNOWN)
            .flaw(Check.OUTSIDE, 1, -1, 3, LEAST, MOST));
        calls.add(new Call("walk", (x, v) -> x.walk(v[0], v[1]), 0, 0).changes()
            .flaw(Check.UNKNOWN, 0, NO_STANDER).in(World.BARE, Check.UNKNOWN).flaw(Check.OUTSIDE, 1, NO_DIGIT));
        calls.add(new Call("grow", (x, v) -> x.grow(v[0], v[1]), 0, 0).changes()
            .flaw(Check.UNKNOWN, 0, NO_STANDER).in(World.BARE, Check.UNKNOWN).flaw(Check.OUTSIDE, 1, NO_DIGIT));
        calls.add(new Call("build", (x, v) -> x.build(v[0]), 0).changes()
            .flaw(Check.OUTSIDE, 0, NO_DIGIT).in(World.BARE, Check.STATE));
        calls.add(new Call("shade", (x, v) -> x.shade(v[0], v[1]), 0, 1)
            .flaw(Check.UNKNOWN, 0, NO_STANDER).in(World.BARE, Check.UNKNOWN).flaw(Check.OUTSIDE, 1, NO_SUN));
    }

    private static void addCensus(List<Call> calls) {
        calls.add(new Call("hidden", (x, v) -> x.hidden(v[0]), 1)
            .flaw(Check.OUTSIDE, 0, NO_SUN).in(World.BARE, Check.STATE));
        calls.add(new Call("census", (x, v) -> x.census(v[0]), 1)
            .flaw(Check.OUTSIDE, 0, NO_SUN).in(World.BARE, Check.STATE));
        calls.add(new Call("runs", (x, v) -> x.runs(v[0], v[1]), 1, 0)
            .flaw(Check.OUTSIDE, 0, NO_SUN).flaw(Check.OUTSIDE, 1, -1, 3, LEAST, MOST)
            .in(World.BARE, Check.STATE));
        calls.add(new Call("walks", (x, v) -> x.walks(v[0], v[1], v[2], v[3], v[4], v[5]),
            1, World.PAIRS, 2, 0, 2, 0).namesFaults()
            .flaw(Check.UNKNOWN, 1, NO_SHEET)
            .flaw(Check.OUTSIDE, 0, NO_SUN).flaw(Check.OUTSIDE, 2, NO_LANE)
            .flaw(Check.OUTSIDE, 4, -1, 21, LEAST, MOST, 1 << 30).flaw(Check.OUTSIDE, 5, -1, 4, 9, 15, LEAST, MOST)
            .flaw(Check.CAST, 2, 0, 1).flaw(Check.NULL, 1, World.NOTHING)
            .flaw(Check.INDEX, 3, -1, 13, LEAST, MOST).flaw(Check.INDEX, 4, 7)
            .in(World.BARE, Check.STATE)
            .flaw(Check.UNKNOWN, 3, 4).flaw(Check.OUTSIDE, 3, 6)
            .flaw(-100, 3, 8));
    }

    private static void addStand(List<Call> calls) {
        calls.add(new Call("pair", (x, v) -> x.pair(v[0], v[1], v[2], v[3]), 0, 1, 1, 0)
            .flaw(Check.UNKNOWN, 0, NO_STANDER).flaw(Check.UNKNOWN, 1, NO_STANDER).flaw(Check.UNKNOWN, 1, 0)
            .in(World.BARE, Check.UNKNOWN)
            .flaw(Check.OUTSIDE, 2, NO_SUN).flaw(Check.OUTSIDE, 3, -1, 3, LEAST, MOST));
        calls.add(new Call("send", (x, v) -> x.send(v[0], v[1]), 1, 0)
            .flaw(Check.OUTSIDE, 0, NO_SUN).flaw(Check.OUTSIDE, 1, NO_COUNT).in(World.BARE, Check.STATE));
    }

    private static void addCounted(List<Call> calls) {
        calls.add(new Call("reading", (x, v) -> x.reading(v[0], v[1]), 1, 0).changes()
            .flaw(Check.OUTSIDE, 0, NO_SUN).flaw(Check.OUTSIDE, 1, NO_COUNT)
            .in(World.BARE, Check.STATE).in(World.READ_FULL, Check.FULL));
        calls.add(new Call("back", (x, v) -> x.back(v[0]), 1).changes()
            .flaw(Check.OUTSIDE, 0, -1, World.READINGS + 1, LEAST, MOST).in(World.BARE, Check.OUTSIDE));
        calls.add(new Call("heights", (x, v) -> x.heights(v[0]), 0)
            .flaw(Check.UNKNOWN, 0, NO_STANDER).in(World.BARE, Check.UNKNOWN));
        calls.add(new Call("kinds", (x, v) -> x.kinds(v[0]), 0)
            .flaw(Check.UNKNOWN, 0, NO_STANDER).in(World.BARE, Check.UNKNOWN));
        calls.add(new Call("spans", (x, v) -> x.spans()).in(World.BARE, Check.STATE));
        calls.add(new Call("odds", (x, v) -> x.odds(v[0], v[1], v[2]), 1, 0, 0).answersLost()
            .flaw(Check.OUTSIDE, 0, NO_SUN).flaw(Check.OUTSIDE, 1, NO_COUNT)
            .flaw(Check.OUTSIDE, 2, -1, 2, LEAST, MOST).in(World.BARE, Check.STATE));
    }

    private static void addSheets(List<Call> calls) {
        calls.add(new Call("sheet", (x, v) -> x.sheet(v[0], v[1], v[2]), World.TEXT, 0, 3)
            .namesFaults().changes()
            .flaw(Check.UNKNOWN, 0, NO_SHEET).flaw(Check.OUTSIDE, 1, NO_LANE).flaw(Check.OUTSIDE, 2, 61, MOST)
            .flaw(Check.SIZE, 2, -1, LEAST));
        calls.add(new Call("lose", (x, v) -> x.lose(v[0]), World.TEXT).changes()
            .flaw(Check.UNKNOWN, 0, NO_SHEET));
        calls.add(new Call("put", (x, v) -> x.put(v[0], v[1], v[2]), World.TEXT, 0, 0)
            .namesFaults().changes()
            .flaw(Check.UNKNOWN, 0, NO_SHEET).flaw(Check.NULL, 0, World.NOTHING)
            .flaw(Check.INDEX, 1, -1, World.TEXT_CELLS, LEAST, MOST));
        calls.add(new Call("cell", (x, v) -> x.cell(v[0], v[1], v[2]), World.TEXT, 0, 0)
            .namesFaults().answersLost()
            .flaw(Check.UNKNOWN, 0, NO_SHEET).flaw(Check.OUTSIDE, 2, NO_LANE)
            .flaw(Check.CAST, 2, 1, 2).flaw(Check.NULL, 0, World.NOTHING)
            .flaw(Check.INDEX, 1, -1, World.TEXT_CELLS, LEAST, MOST));
        calls.add(new Call("copy", (x, v) -> x.copy(v[0], v[1], v[2], v[3], v[4]),
            World.TEXT, 0, World.TEXT, 2, 2).namesFaults().changes()
            .flaw(Check.UNKNOWN, 0, NO_SHEET).flaw(Check.UNKNOWN, 2, NO_SHEET)
            .flaw(Check.NULL, 0, World.NOTHING).flaw(Check.NULL, 2, World.NOTHING)
            .flaw(Check.CAST, 0, World.PAIRS).flaw(Check.CAST, 2, World.SHORTS)
            .flaw(Check.INDEX, 1, -1, 8, LEAST, MOST).flaw(Check.INDEX, 3, -1, 8, LEAST, MOST)
            .flaw(Check.INDEX, 4, -1, 8, LEAST, MOST));
    }

    private static void addParts(List<Call> calls) {
        calls.add(new Call("tell", (x, v) -> x.tell(v[0]), 0).changes()
            .flaw(Check.UNKNOWN, 0, NO_STANDER).in(World.BARE, Check.UNKNOWN));
        calls.add(new Call("tax", (x, v) -> x.tax(v[0]), 0).changes()
            .flaw(Check.UNKNOWN, 0, NO_STANDER).in(World.BARE, Check.UNKNOWN));
        calls.add(new Call("as", (x, v) -> x.as(v[0], v[1]), 0, 0).namesFaults()
            .flaw(Check.UNKNOWN, 0, NO_STANDER).in(World.BARE, Check.UNKNOWN)
            .flaw(Check.OUTSIDE, 1, -1, 3, LEAST, MOST).flaw(Check.CAST, 1, 1, 2));
        calls.add(new Call("many", (x, v) -> x.many(v[0]), 0)
            .flaw(Check.OUTSIDE, 0, -1, 4, LEAST, MOST));
    }

    private static String words(Call call, int[] v, int world) {
        String[] worlds = {"", " without a FIELD", " with 8 READINGS"};
        return call.name + Arrays.toString(v) + worlds[world];
    }

    /** Ahead of the flaws: without any the call is taken, and one that only asks changes nothing. */
    private static void right(Call call) {
        check.by("0: it came to none, or was refused");
        SnowCensus x = World.of(World.LAID);
        World.leaveFault(x, 4);
        String words = words(call, call.right, World.LAID);
        check.dueTrue(words + " is taken", call.body.on(x, call.right) >= 0);
        check.due("fault() behind " + words, x.fault(), call.namesFaults ? 0 : 4);
        if (!call.changes) {
            check.dueText("what is told behind " + words, World.told(x), World.told(World.of(World.LAID)));
        }
    }

    private static void eachAlone(Call call) {
        for (Flaw flaw : call.flaws) {
            flawed(call, flaw, flaw);
        }
    }

    private static void twoAtOnce(Call call) {
        for (int first = 0; first < call.flaws.size(); first++) {
            for (int second = first + 1; second < call.flaws.size(); second++) {
                Flaw f = call.flaws.get(first);
                Flaw g = call.flaws.get(second);
                // What a SHEET that has nothing is taken as makes no CAST of it: nothingIsNoCast.
                boolean isNoCast = f.answer == Check.CAST && g.answer == Check.NULL;
                if (f.place != g.place && !isNoCast) {
                    flawed(call, f, g);
                }
            }
        }
    }

    /** Of both flaws (perhaps the same) the first one is due. */
    private static void flawed(Call call, Flaw first, Flaw second) {
        int[] v = call.right.clone();
        int world = World.LAID;
        for (Flaw flaw : new Flaw[] {second, first}) {
            if (flaw.place >= 0) {
                v[flaw.place] = flaw.value;
            } else {
                world = flaw.value;
            }
        }
        dueFlaw(call, v, world, first.answer);
    }

    private static void dueFlaw(Call call, int[] v, int world, int answer) {
        String words = words(call, v, world);
        boolean isFault = answer <= Check.NULL && answer >= Check.SIZE;
        check.by(isFault ? "Of a call the first that is come to, in the order told"
            : "REFUSALS, in the order in which a call's line tells them");
        int fault = isFault ? -10 - answer : 0;
        // Another one than is due, so that one that just stays is seen.
        int left = fault == 3 ? 4 : 3;
        SnowCensus x = World.of(world);
        World.leaveFault(x, left);
        check.due(words, call.body.on(x, v), call.answersLost ? Check.LOST : answer);
        check.by("The FAULT of the latest call that names one");
        check.due("fault() behind " + words, x.fault(), call.namesFaults ? fault : left);
        check.by("they change nothing");
        check.dueText("what is told behind " + words, World.told(x), World.told(World.of(world)));
    }

    private static void withoutNumbers() {
        for (int world = World.LAID; world <= World.READ_FULL; world++) {
            SnowCensus x = World.of(world);
            World.leaveFault(x, 4);
            check.by("STATE: there is no FIELD");
            check.dueTrue("fair()", world == World.BARE ? x.fair() == Check.STATE : x.fair() > 0);
            x.trace();
            check.due("fault() behind fair() and trace()", x.fault(), 4);
            check.due("fault() behind fault()", x.fault(), 4);
            check.by("they change nothing");
            check.dueText("what is told", World.told(x), World.told(World.of(world)));
        }
    }

    private static void nothingIsNoCast() {
        check.by("FAULTS CAST (nothing is no CAST), NULL");
        for (int lane = 0; lane <= 2; lane++) {
            SnowCensus x = World.of(World.LAID);
            check.due("field", x.field(World.NOTHING, lane, -1, -1), Check.NULL);
            check.due("fault()", x.fault(), 1);
            World.leaveFault(x, 2);
            check.due("cell", x.cell(World.NOTHING, -1, lane), Check.LOST);
            check.due("fault()", x.fault(), 1);
            World.leaveFault(x, 2);
            check.due("walks", x.walks(1, World.NOTHING, lane, -1, 1, 0), Check.NULL);
            check.due("fault()", x.fault(), 1);
            World.leaveFault(x, 2);
            check.due("copy to nothing", x.copy(lane, -1, World.NOTHING, -1, -1), Check.NULL);
            check.due("copy from nothing", x.copy(World.NOTHING, -1, lane, -1, -1), Check.NULL);
            check.due("copy from nothing to it", x.copy(World.NOTHING, -1, World.NOTHING, -1, -1), Check.NULL);
            check.due("fault()", x.fault(), 1);
        }
    }
}

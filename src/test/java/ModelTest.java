import java.lang.reflect.Method;
import java.util.Arrays;
import java.util.Random;

/** Long runs of calls, set side by side with NaiveCensus; the same ones every time. */
final class ModelTest {
    private static final int RUNS = 3000, CALLS = 512;
    private static final Check check = new Check("ModelTest");
    private static final String[] NAMES = {"field", "ofStander", "walk", "grow", "build", "shade",
        "hidden", "census", "runs", "fair", "walks", "pair", "send", "reading", "back", "heights",
        "kinds", "spans", "odds", "sheet", "lose", "put", "cell", "copy", "tell", "tax", "as",
        "trace", "fault", "many"};
    private static final Method[] METHODS = new Method[NAMES.length];

    public static void main(String[] args) throws Exception {
        for (Method m : SnowCensus.class.getDeclaredMethods()) {
            int k = Arrays.asList(NAMES).indexOf(m.getName());
            if (k >= 0) {
                METHODS[k] = m;
            }
        }
        for (int run = 0; run < RUNS; run++) {
            oneRun(run);
        }
        check.end();
    }

    private static void oneRun(int run) throws Exception {
        Random random = new Random(run);
        SnowCensus x = new SnowCensus();
        NaiveCensus y = new NaiveCensus();
        int wild = run % 4 == 0 ? 25 : 400;
        int calls = 0;
        while (calls < CALLS) {
            int kind = random.nextInt(40);
            if (kind == 0 || calls == 0 && run % 3 != 0) {
                calls += layBoth(random, x, y, run);
            } else if (kind == 1) {
                calls += tellWalks(random, x, y, run);
            } else if (kind == 2) {
                calls += readTruly(random, x, y, run);
            } else {
                int which = random.nextInt(NAMES.length);
                int[] numbers = numbersFor(random, METHODS[which], wild);
                both(x, y, run, which, numbers);
                both(x, y, run, Arrays.asList(NAMES).indexOf("fault"), new int[0]);
                calls += 2;
            }
        }
    }

    private static long both(SnowCensus x, NaiveCensus y, int run, int which, int... v) throws Exception {
        Object[] boxed = Arrays.stream(v).boxed().toArray();
        long got = ((Number) METHODS[which].invoke(x, boxed)).longValue();
        long want = y.ask(NAMES[which], v);
        check.due("run " + run + ": " + NAMES[which] + Arrays.toString(v), got, want);
        return got;
    }

    private static long bothOf(SnowCensus x, NaiveCensus y, int run, String name, int... v) throws Exception {
        return both(x, y, run, Arrays.asList(NAMES).indexOf(name), v);
    }

    private static int number(Random random, int wild) {
        if (random.nextInt(wild) == 0) {
            return Check.WILD[random.nextInt(Check.WILD.length)];
        }
        switch (random.nextInt(8)) {
            case 0: return random.nextInt(62) - 1;
            case 1: return random.nextInt(17) - 2;
            case 2: return random.nextInt(102) - 1;
            default: return random.nextInt(5);
        }
    }

    private static int[] numbersFor(Random random, Method method, int wild) {
        int[] v = new int[method.getParameterCount()];
        for (int k = 0; k < v.length; k++) {
            v[k] = number(random, wild);
        }
        return v;
    }

    private static String text(Random random) {
        StringBuilder text = new StringBuilder("f");
        text.append(1 + random.nextInt(9)).append(random.nextInt(random.nextBoolean() ? 2 : 10));
        int n = 1 + random.nextInt(5) + (random.nextInt(8) == 0 ? 1 : 0);
        for (int a = 0; a < n; a++) {
            text.append(';').append("srp".charAt(random.nextInt(3)));
            text.append(random.nextInt(10)).append(random.nextInt(random.nextBoolean() ? 3 : 10));
        }
        if (random.nextInt(3) == 0) {
            text.setCharAt(random.nextInt(text.length()), "fsrp;0123456789x".charAt(random.nextInt(16)));
        }
        if (random.nextInt(4) == 0) {
            text.setLength(random.nextInt(text.length() + 1));
        }
        return text.toString();
    }

    private static int layBoth(Random random, SnowCensus x, NaiveCensus y, int run) throws Exception {
        String text = text(random);
        int k = random.nextInt(4);
        int lane = random.nextInt(3);
        int ahead = random.nextInt(3);
        bothOf(x, y, run, "sheet", k, lane, ahead + text.length() + random.nextInt(2));
        for (int c = 0; c < text.length(); c++) {
            bothOf(x, y, run, "put", k, ahead + c, text.charAt(c));
        }
        bothOf(x, y, run, "field", k, lane, ahead, text.length());
        bothOf(x, y, run, "fault");
        return text.length() + 3;
    }

    private static int tellWalks(Random random, SnowCensus x, NaiveCensus y, int run) throws Exception {
        int k = random.nextInt(4);
        int lane = random.nextInt(3);
        int n = random.nextInt(5);
        bothOf(x, y, run, "sheet", k, lane, 2 * n);
        for (int c = 0; c < n; c++) {
            bothOf(x, y, run, "put", k, 2 * c, random.nextInt(random.nextInt(6) == 0 ? 6 : 3));
            bothOf(x, y, run, "put", k, 2 * c + 1, random.nextInt(random.nextInt(6) == 0 ? 11 : 10));
        }
        int sun = 1 + random.nextInt(3);
        for (int what : new int[] {0, 1, 2, 3, 10, 11, 12, 13, 14}) {
            bothOf(x, y, run, "walks", sun, k, lane, 0, n, what);
        }
        return 2 * n + 10;
    }

    /** Readings that are so by what is now, or nearly: others leave nothing that would be possible. */
    private static int readTruly(Random random, SnowCensus x, NaiveCensus y, int run) throws Exception {
        int sun = 1 + random.nextInt(3);
        long census = bothOf(x, y, run, "census", sun);
        bothOf(x, y, run, "back", random.nextInt(3));
        bothOf(x, y, run, "reading", sun, (int) Math.max(0, census + random.nextInt(2)));
        for (int a = 0; a < 5; a++) {
            bothOf(x, y, run, "heights", a);
            bothOf(x, y, run, "kinds", a);
        }
        bothOf(x, y, run, "spans");
        return 14;
    }
}

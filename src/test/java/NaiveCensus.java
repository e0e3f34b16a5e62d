import java.util.ArrayList;
import java.util.Arrays;
import java.util.List;
import java.util.TreeSet;
import java.util.regex.Pattern;

/**
 * The document once more, told as slowly and as unlike the program as can be: rows of real lanes, sets
 * of feet, texts by patterns, refusals as exceptions. ModelTest sets both side by side.
 */
final class NaiveCensus {
    private static final class Refused extends RuntimeException {
        private static final long serialVersionUID = 1L;
        final int answer;
        final int fault;

        Refused(int answer, int fault) {
            super(null, null, false, false);
            this.answer = answer;
            this.fault = fault;
        }
    }

    private record Person(int kind, int foot, int height) {
        int shade(int sun) {
            int plain = height * sun;
            return kind == 0 ? plain : kind == 1 ? (plain == 0 ? 0 : plain - 1) : plain / 2;
        }
    }

    private record Sight(List<Person> people, int span, int tower) {
        TreeSet<Integer> dark(int sun) {
            TreeSet<Integer> feet = new TreeSet<>();
            for (Person p : people) {
                if (p.foot >= tower * sun) {
                    for (int f = p.foot; f <= p.foot + p.shade(sun); f++) {
                        feet.add(f);
                    }
                }
            }
            return feet;
        }

        List<Integer> runs(int sun) {
            TreeSet<Integer> feet = dark(sun);
            List<Integer> lengths = new ArrayList<>();
            for (int f : feet) {
                if (!feet.contains(f - 1)) {
                    int end = f;
                    while (feet.contains(end)) {
                        end++;
                    }
                    lengths.add(end - f);
                }
            }
            return lengths;
        }

        int census(int sun) {
            int sum = 0;
            for (int length : runs(sun)) {
                sum += length / span + (length % span == 0 ? 0 : 1);
            }
            return sum;
        }

        int hidden(int sun) {
            int set = 0;
            for (int a = 0; a < people.size(); a++) {
                if (people.get(a).foot < tower * sun) {
                    set += 1 << a;
                }
            }
            return set;
        }

        Sight with(int a, Person p) {
            List<Person> next = new ArrayList<>(people);
            next.set(a, p);
            return new Sight(next, span, tower);
        }

        Sight only(int out) {
            List<Person> next = new ArrayList<>();
            for (int a = 0; a < people.size(); a++) {
                if ((out & 1 << a) != 0) {
                    next.add(people.get(a));
                }
            }
            return new Sight(next, span, tower);
        }
    }

    private Sight sight;
    private final List<int[]> readings = new ArrayList<>();
    private final Object[] sheets = new Object[4];
    private int trace;
    private int fault;

    /** The answer to a call that is told by its name and its numbers. */
    long ask(String call, int... v) {
        boolean names = List.of("field", "walks", "sheet", "put", "cell", "copy", "as").contains(call);
        boolean isLong = call.equals("cell") || call.equals("odds");
        try {
            long answer = answer(call, v);
            fault = names ? 0 : fault;
            return answer;
        } catch (Refused r) {
            fault = names ? r.fault : fault;
            return isLong ? Long.MIN_VALUE : r.answer;
        }
    }

    private long answer(String call, int[] v) {
        switch (call) {
            case "field": return field(v[0], v[1], v[2], v[3]);
            case "ofStander": {
                Person p = person(v[0]);
                outside(v[1], 0, 2);
                return v[1] == 0 ? p.kind : v[1] == 1 ? p.foot : p.height;
            }
            case "walk": {
                Person p = person(v[0]);
                outside(v[1], 0, 9);
                sight = sight.with(v[0], new Person(p.kind, v[1], p.height));
                return p.foot;
            }
            case "grow": {
                Person p = person(v[0]);
                outside(v[1], 0, 9);
                sight = sight.with(v[0], new Person(p.kind, p.foot, v[1]));
                return p.height;
            }
            case "build": {
                outside(v[0], 0, 9);
                state();
                int was = sight.tower;
                sight = new Sight(sight.people, sight.span, v[0]);
                return was;
            }
            case "shade": {
                Person p = person(v[0]);
                outside(v[1], 1, 3);
                return p.shade(v[1]);
            }
            case "hidden": outside(v[0], 1, 3); state(); return sight.hidden(v[0]);
            case "census": outside(v[0], 1, 3); state(); return sight.census(v[0]);
            case "runs": return runs(v[0], v[1]);
            case "fair": return fair();
            case "walks": return walks(v);
            case "pair": return pair(v[0], v[1], v[2], v[3]);
            case "send": return send(v[0], v[1]);
            case "odds": return odds(v[0], v[1], v[2]);
            default: return answerOfRest(call, v);
        }
    }

    private long answerOfRest(String call, int[] v) {
        switch (call) {
            case "reading":
                outside(v[0], 1, 3);
                outside(v[1], 0, 99);
                state();
                refuse(readings.size() == 8, -4);
                readings.add(new int[] {v[0], v[1]});
                return readings.size() - 1;
            case "back":
                outside(v[0], 0, readings.size());
                for (int k = 0; k < v[0]; k++) {
                    readings.remove(readings.size() - 1);
                }
                return readings.size();
            case "heights": case "kinds": return possible(call.equals("heights"), v[0]);
            case "spans": {
                state();
                int set = 0;
                for (int span = 1; span <= 9; span++) {
                    set += so(new Sight(sight.people, span, sight.tower)) ? 1 << span : 0;
                }
                return set;
            }
            case "sheet": return sheet(v[0], v[1], v[2]);
            case "lose": {
                unknown(v[0], 4);
                int had = sheets[v[0]] == null ? 0 : 1;
                sheets[v[0]] = null;
                return had;
            }
            case "put": return put(v[0], v[1], v[2]);
            case "cell":
                unknown(v[0], 4);
                outside(v[2], 0, 2);
                row(v[0], v[2]);
                fail(v[1] < 0 || v[1] >= length(v[0]), 3);
                return at(v[0], v[1]);
            case "copy": return copy(v);
            case "tell": return tell(person(v[0]));
            case "tax": trace = trace * 31 + (person(v[0]).kind == 2 ? 5 : 4);
                return person(v[0]).kind == 2 ? 60 : v[0];
            case "as": {
                int kind = person(v[0]).kind;
                outside(v[1], 0, 2);
                fail(v[1] > kind, 2);
                return 1;
            }
            case "trace": return trace;
            case "fault": return fault;
            case "many":
                outside(v[0], 0, 3);
                return sight == null ? 0 : new int[] {sight.people.size(), sight.span, sight.tower,
                    readings.size()}[v[0]];
            default: throw new IllegalArgumentException(call);
        }
    }

    private static void refuse(boolean is, int answer) {
        if (is) {
            throw new Refused(answer, 0);
        }
    }

    private static void fail(boolean is, int which) {
        if (is) {
            throw new Refused(-10 - which, which);
        }
    }

    private static void unknown(int k, int n) {
        refuse(k < 0 || k >= n, -1);
    }

    private static void outside(int v, int least, int most) {
        refuse(v < least || v > most, -2);
    }

    private void state() {
        refuse(sight == null, -3);
    }

    private Person person(int a) {
        unknown(a, sight == null ? 0 : sight.people.size());
        return sight.people.get(a);
    }

    private void row(int k, int lane) {
        Object row = sheets[k];
        boolean fits = row == null || (lane == 0 ? row instanceof byte[]
            : lane == 1 ? row instanceof short[] : row instanceof int[]);
        fail(!fits, 2);
        fail(row == null, 1);
    }

    private int length(int k) {
        return java.lang.reflect.Array.getLength(sheets[k]);
    }

    private int at(int k, int i) {
        return java.lang.reflect.Array.getInt(sheets[k], i);
    }

    private void cells(int k, long i, long n) {
        fail(i < 0 || i > length(k) || n < 0 || i + n > length(k), 3);
    }

    private long field(int k, int lane, int i, int n) {
        unknown(k, 4);
        outside(lane, 0, 2);
        row(k, lane);
        fail(n < 0, 4);
        cells(k, i, n);
        StringBuilder text = new StringBuilder();
        for (int c = 0; c < n; c++) {
            int code = at(k, i + c);
            text.append(code < 1 || code > 126 ? '?' : (char) code);
        }
        Pattern whole = Pattern.compile("f[1-9][0-9](;[srp][0-9][0-9]){1,5}");
        if (!whole.matcher(text).matches()) {
            for (int c = 1; c <= n; c++) {
                java.util.regex.Matcher m = whole.matcher(text.substring(0, c));
                if (!m.matches() && !m.hitEnd()) {
                    return -100 - (c - 1);
                }
            }
            return -100 - n;
        }
        List<Person> people = new ArrayList<>();
        String[] parts = text.toString().split(";");
        for (int a = 1; a < parts.length; a++) {
            people.add(new Person("srp".indexOf(parts[a].charAt(0)),
                parts[a].charAt(1) - '0', parts[a].charAt(2) - '0'));
        }
        sight = new Sight(people, parts[0].charAt(1) - '0', parts[0].charAt(2) - '0');
        readings.clear();
        return people.size();
    }

    private long runs(int sun, int what) {
        outside(sun, 1, 3);
        outside(what, 0, 2);
        state();
        List<Integer> lengths = sight.runs(sun);
        TreeSet<Integer> dark = sight.dark(sun);
        return what == 0 ? lengths.size()
            : what == 1 ? lengths.stream().mapToInt(x -> x).max().orElse(0)
            : dark.isEmpty() ? 0 : dark.last() + 1;
    }

    private long fair() {
        state();
        int[] off = new int[4];
        for (int sun = 1; sun <= 3; sun++) {
            off[sun] = Math.abs(sight.census(sun) - sight.people.size());
        }
        return off[1] <= off[2] && off[1] <= off[3] ? 1 : off[2] <= off[3] ? 2 : 3;
    }

    private long walks(int[] v) {
        int sun = v[0];
        int n = v[4];
        int what = v[5];
        unknown(v[1], 4);
        outside(sun, 1, 3);
        outside(v[2], 0, 2);
        outside(n, 0, 20);
        refuse(!List.of(0, 1, 2, 3, 10, 11, 12, 13, 14).contains(what), -2);
        row(v[1], v[2]);
        cells(v[1], v[3], 2L * n);
        state();
        for (int c = 0; c < n; c++) {
            person(at(v[1], v[3] + 2 * c));
            outside(at(v[1], v[3] + 2 * c + 1), 0, 9);
        }
        Sight then = sight;
        int steps = 0;
        for (int c = 0; c < n; c++) {
            int a = at(v[1], v[3] + 2 * c);
            int foot = at(v[1], v[3] + 2 * c + 1);
            for (int b = 0; b < then.people.size(); b++) {
                if (b != a && then.people.get(b).foot == foot) {
                    return what == 1 ? c : -100 - c;
                }
            }
            Person p = then.people.get(a);
            steps += Math.max(foot, p.foot) - Math.min(foot, p.foot);
            then = then.with(a, new Person(p.kind, foot, p.height));
        }
        return what == 0 ? then.census(sun) : what == 1 ? -9 : what == 2 ? steps
            : what == 3 ? then.hidden(sun)
            : what - 10 < then.people.size() ? then.people.get(what - 10).foot : -9;
    }

    private long pair(int a, int b, int sun, int what) {
        Person p = person(a);
        Person q = person(b);
        refuse(a == b, -1);
        outside(sun, 1, 3);
        outside(what, 0, 2);
        int[] best = null;
        for (int row = 0; row < 100; row++) {
            Sight then = sight.with(a, new Person(p.kind, row / 10, p.height))
                .with(b, new Person(q.kind, row % 10, q.height));
            if ((then.hidden(sun) & (1 << a | 1 << b)) == 0) {
                int census = then.census(sun);
                if (best == null || census < best[0]) {
                    best = new int[] {census, row / 10, row % 10};
                }
            }
        }
        return best == null ? -9 : best[what];
    }

    private long send(int sun, int v) {
        outside(sun, 1, 3);
        outside(v, 0, 99);
        state();
        int all = (1 << sight.people.size()) - 1;
        for (int few = 0; few <= sight.people.size(); few++) {
            for (int set = 0; set <= all; set++) {
                if (Integer.bitCount(set) == few && sight.only(all - set).census(sun) == v) {
                    return set;
                }
            }
        }
        return -9;
    }

    private long odds(int sun, int v, int which) {
        outside(sun, 1, 3);
        outside(v, 0, 99);
        outside(which, 0, 1);
        state();
        int sets = 1 << sight.people.size();
        int so = 0;
        for (int out = 0; out < sets; out++) {
            so += sight.only(out).census(sun) == v ? 1 : 0;
        }
        int share = java.math.BigInteger.valueOf(so).gcd(java.math.BigInteger.valueOf(sets)).intValue();
        return which == 0 ? so / share : sets / share;
    }

    private boolean so(Sight then) {
        return readings.stream().allMatch(r -> then.census(r[0]) == r[1]);
    }

    private long possible(boolean ofHeights, int a) {
        Person p = person(a);
        int set = 0;
        for (int v = 0; v <= (ofHeights ? 9 : 2); v++) {
            Person other = ofHeights ? new Person(p.kind, p.foot, v) : new Person(v, p.foot, p.height);
            set += so(sight.with(a, other)) ? 1 << v : 0;
        }
        return set;
    }

    private long sheet(int k, int lane, int n) {
        unknown(k, 4);
        outside(lane, 0, 2);
        refuse(n > 60, -2);
        fail(n < 0, 4);
        sheets[k] = lane == 0 ? new byte[n] : lane == 1 ? (Object) new short[n] : new int[n];
        return 1;
    }

    private long put(int k, int i, int v) {
        unknown(k, 4);
        fail(sheets[k] == null, 1);
        fail(i < 0 || i >= length(k), 3);
        if (sheets[k] instanceof byte[] row) {
            row[i] = (byte) v;
        } else if (sheets[k] instanceof short[] row) {
            row[i] = (short) v;
        } else if (sheets[k] instanceof int[] row) {
            row[i] = v;
        }
        return 1;
    }

    private long copy(int[] v) {
        unknown(v[0], 4);
        unknown(v[2], 4);
        fail(sheets[v[0]] == null || sheets[v[2]] == null, 1);
        fail(sheets[v[0]].getClass() != sheets[v[2]].getClass(), 2);
        cells(v[0], v[1], v[4]);
        cells(v[2], v[3], v[4]);
        int[] were = new int[v[4]];
        Arrays.setAll(were, c -> at(v[0], v[1] + c));
        for (int c = 0; c < v[4]; c++) {
            put(v[2], v[3] + c, were[c]);
        }
        return v[4];
    }

    private long tell(Person p) {
        int[][] bodies = {{1}, {2, 1}, {3, 2, 1, 1}};
        for (int body : bodies[p.kind]) {
            trace = trace * 31 + body;
        }
        return p.kind == 0 ? p.height : p.kind == 1 ? p.height + 100 : 2 * p.height + 100;
    }
}

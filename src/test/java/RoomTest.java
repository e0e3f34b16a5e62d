import java.lang.management.ManagementFactory;

/** No call makes an object: all calls of a run live in one room. */
final class RoomTest {
    private static final Check check = new Check("RoomTest");

    public static void main(String[] args) {
        com.sun.management.ThreadMXBean threads =
            (com.sun.management.ThreadMXBean) ManagementFactory.getThreadMXBean();
        SnowCensus x = Check.of("f31;s25;r47;p09;s11;r22");
        useAll(x, 1);
        long ahead = threads.getCurrentThreadAllocatedBytes();
        useAll(x, 1000);
        long made = threads.getCurrentThreadAllocatedBytes() - ahead;
        // Looking itself makes a little.
        check.dueTrue("1000 rounds of all calls made " + made + " bytes", made < 4096);
        ahead = threads.getCurrentThreadAllocatedBytes();
        new SnowCensus();
        made = threads.getCurrentThreadAllocatedBytes() - ahead;
        check.dueTrue("a new object made " + made + " bytes", made < 4096);
        check.end();
    }

    private static void useAll(SnowCensus x, int rounds) {
        for (int r = 0; r < rounds; r++) {
            x.field(0, 0, 0, 23);
            x.sheet(1, 0, 60);
            x.put(1, 1, 6);
            x.cell(1, 1, 0);
            x.copy(1, 0, 1, 1, 3);
            x.sheet(2, r % 3, 60);
            x.lose(2);
            x.ofStander(0, 0);
            x.walk(0, r % 10);
            x.grow(0, r % 10);
            x.build(r % 3);
            x.shade(2, 3);
            x.reading(1, 3);
            x.reading(2, 4);
            askAll(x, 1 + r % 3);
            x.back(2);
        }
    }

    private static void askAll(SnowCensus x, int sun) {
        x.hidden(sun);
        x.census(sun);
        x.runs(sun, 1);
        x.fair();
        x.walks(sun, 1, 0, 4, 20, 0);
        x.walks(sun, 1, 0, 4, 20, 2);
        x.pair(0, 3, sun, 1);
        x.send(sun, 2);
        x.heights(1);
        x.kinds(1);
        x.spans();
        x.odds(sun, 2, 0);
        x.tell(2);
        x.tax(2);
        x.as(0, 2);
        x.trace();
        x.fault();
        x.many(0);
    }
}

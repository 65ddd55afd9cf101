import java.lang.management.ManagementFactory;

/** The dearest runs of 512 calls: what they make stays far below 600,000 objects and 7.3 million fields and elements. */
public final class RoomTest {
    private static final int CALLS = 512;
    private static final int NODES_ALLOWED = 40000;
    private static final long BYTES_BESIDE_NODES = 40000;
    private static final long BYTES_OF_NODE = 64;

    private RoomTest() {
    }

    private interface Run {
        void call(JoinMaps x, int i);
    }

    public static void main(String[] args) {
        // A first object loads the classes, whose making is not counted.
        new JoinMaps().fill(0, 0, 1, 1);
        measure("puts", "", (x, i) -> x.put(i % 6, i * 7 % 1001 - 500, i));
        measure("fills", "", (x, i) -> x.fill(i % 6, -500 + i % 5, 200, 5));
        measure("scatters", "b=(b-{1})&{2};c={};d={};e={};f={};", RoomTest::scatter);
        measure("refused scatters", "", RoomTest::scatterUntilFull);
        measure("refused unions", "", (x, i) -> x.mix(0, 0, 1, 2));
        measure("eithers", "", (x, i) -> x.mix(3, i % 2, 3 + i % 2, 2));
        measure("lesses", "", (x, i) -> x.mix(2, i % 2, 3 + i % 2, 2));
        measure("slides", "", (x, i) -> x.slide(i % 6, i / 6 % 2 == 0 ? 1 : -1));
        measure("raises", "", (x, i) -> x.raise(i % 6, -500, 500, i % 2 == 0 ? 1 : -1));
        measure("zips", "", (x, i) -> x.zip(i % 6, (i + 1) % 6, i % 6));
        measure("sieves", "", (x, i) -> x.sieve(i % 6, 0, 0, i % 6));
        measure("sums that make all maps anew", "f=a;a=a+f;f=a+f;b=b+b;c=c+c;d=d+d;e=e+e;", (x, i) -> x.sums());
        measure("sums of 58 meets", "f=a" + "&c".repeat(58) + ";", (x, i) -> x.sums());
        measure("sums of 58 lesses", "f=a" + "-b".repeat(58) + ";", (x, i) -> x.sums());
        measure("refused sums", "f=" + "(a+a)-((b+b)-(".repeat(5) + "a^b" + "))".repeat(5) + ";", (x, i) -> x.sums());
        measure("sums and others", "a=(a+a)^(a-b);b=(b^c)&b+b;c=c+c;d=(d+d)&(d+d);e=e+e&e;f=f+f;", RoomTest::all);
        Check.end();
    }

    private static void scatter(JoinMaps x, int i) {
        if (i % 6 == 0) {
            x.sums();
        } else {
            x.scatter(i % 6, i * 1999 % 1000000, 100);
        }
    }

    private static void scatterUntilFull(JoinMaps x, int i) {
        if (i == 0) {
            x.fill(0, -500, 170, 5);
        } else {
            x.scatter(0, i * 1999 % 1000000, 100);
        }
    }

    private static void all(JoinMaps x, int i) {
        if (i % 2 == 0) {
            x.sums();
        } else {
            x.fill(i % 5, -500 + i % 5, 200, 5);
        }
    }

    private static void measure(String what, String text, Run run) {
        com.sun.management.ThreadMXBean threads = (com.sun.management.ThreadMXBean) ManagementFactory.getThreadMXBean();
        long me = Thread.currentThread().getId();
        // Once without looking, so that nothing of the test itself is made later on.
        go(new JoinMaps(), text, run);
        long before = threads.getThreadAllocatedBytes(me);
        JoinMaps x = new JoinMaps();
        go(x, text, run);
        long bytes = threads.getThreadAllocatedBytes(me) - before;
        int nodes = Inside.nodesMade(x);
        System.out.println(what + ": " + nodes + " nodes, " + bytes + " bytes");
        Check.holds(what + " made " + nodes + " nodes", nodes <= NODES_ALLOWED);
        Check.holds(what + " made " + bytes + " bytes", bytes <= nodes * BYTES_OF_NODE + BYTES_BESIDE_NODES);
    }

    private static void go(JoinMaps x, String text, Run run) {
        for (int m = 0; m < 6; m++) {
            x.fill(m, -500 + m % 3, 200, 5);
        }
        for (int i = 0; i < text.length(); i++) {
            x.type(text.charAt(i));
        }
        for (int i = 0; i < CALLS; i++) {
            run.call(x, i);
        }
    }
}

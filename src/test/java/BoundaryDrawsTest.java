import java.math.BigInteger;
import java.util.TreeMap;

/** DRAWS and promise 28, scatter: the sentences that name a boundary case, each with a test of its own. */
public final class BoundaryDrawsTest {
    private static final int BAD = JoinMaps.BAD, FULL = JoinMaps.FULL;

    private BoundaryDrawsTest() {
    }

    public static void main(String[] args) {
        none();
        one();
        seeds();
        full();
        fullOnTheWay();
        fullUndone();
        Check.end();
    }

    /** A draw as the document tells it, in numbers without a bound, so that nothing wraps around. */
    private static final class Draw {
        final BigInteger x;

        Draw(BigInteger x) {
            this.x = x;
        }

        static Draw first(int seed) {
            return new Draw(BigInteger.valueOf(seed)).next();
        }

        Draw next() {
            BigInteger more = x.multiply(BigInteger.valueOf(1103515245L)).add(BigInteger.valueOf(12345L));
            return new Draw(more.mod(BigInteger.valueOf(2147483648L)));
        }

        private int by(long divisor, long rest) {
            return x.divide(BigInteger.valueOf(divisor)).mod(BigInteger.valueOf(rest)).intValueExact();
        }

        int key() {
            return by(65536, 1001) - 500;
        }

        boolean takesAway() {
            return by(1024, 4) == 0;
        }

        int value() {
            return by(4096, 1000);
        }
    }

    private interface Wanted {
        boolean is(Draw draw);
    }

    /** The least seed whose first draw, or its second one, is as wanted. */
    private static int seedOf(Wanted first, Wanted second) {
        for (int seed = 0; seed <= 999999; seed++) {
            Draw draw = Draw.first(seed);
            if (first.is(draw) && second.is(draw.next())) {
                return seed;
            }
        }
        Check.fail("no seed is as wanted");
        return 0;
    }

    private static String textOf(TreeMap<Integer, Integer> map) {
        return map.toString().replace("=", ":").replace(" ", "");
    }

    private static void none() {
        Boundary.changes("28: n 0", () -> Boundary.of(1, 1), x -> x.scatter(0, 999999, 0), 1, "a={1:1}");
        Boundary.changes("28: n 0 of an empty one", JoinMaps::new, x -> x.scatter(0, 0, 0), 0, "a={}");
        Boundary.changes("28: n 0 of 200", () -> Boundary.filled(200), x -> x.scatter(0, 0, 0), 200);
        Boundary.refuses("28: BAD: n 101", () -> Boundary.of(1, 1), x -> x.scatter(0, 0, 101), BAD);
        Boundary.refuses("28: BAD: n -1", () -> Boundary.of(1, 1), x -> x.scatter(0, 0, -1), BAD);
        Boundary.refuses("28: BAD with n 0", () -> Boundary.of(1, 1), x -> x.scatter(0, 1000000, 0), BAD);
        Boundary.refuses("28: BAD ahead of FULL", () -> Boundary.filled(200), x -> x.scatter(0, 1, 101), BAD);
    }

    private static void one() {
        // Seed 0: X is 12345; by 65536 it is 0, so KEY -500; by 1024 it is 12, which leaves 0 over by 4.
        Boundary.changes("28: taken away, not there", JoinMaps::new, x -> x.scatter(0, 0, 1), 0, "a={}");
        Boundary.changes("28: taken away, if there", () -> Boundary.of(-500, 5, 1, 1), x -> x.scatter(0, 0, 1), 1,
                "a={1:1}");
        Boundary.changes("28: taken away, others there", () -> Boundary.of(1, 1), x -> x.scatter(0, 0, 1), 1,
                "a={1:1}");
        // Seed 1: X is 1103527590; by 65536 it is 16838, so KEY 322; by 4096 it is 269415, so VALUE 415.
        Boundary.changes("28: put", JoinMaps::new, x -> x.scatter(0, 1, 1), 1, "a={322:415}");
        Boundary.changes("28: put in place", () -> Boundary.of(322, 1), x -> x.scatter(0, 1, 1), 1, "a={322:415}");
        drawOf("28: the greatest KEY is drawn", draw -> draw.key() == 500 && !draw.takesAway());
        drawOf("28: the least KEY is drawn", draw -> draw.key() == -500 && !draw.takesAway());
        drawOf("28: the least VALUE is drawn", draw -> draw.value() == 0 && !draw.takesAway());
        drawOf("28: the greatest VALUE is drawn", draw -> draw.value() == 999 && !draw.takesAway());
    }

    private static void drawOf(String sentence, Wanted wanted) {
        int seed = seedOf(wanted, any -> true);
        Draw draw = Draw.first(seed);
        Boundary.changes(sentence, JoinMaps::new, x -> x.scatter(0, seed, 1), 1,
                "a={" + draw.key() + ":" + draw.value() + "}");
    }

    /** "by 2147483648 what is left over": X times 1103515245 is far above 2147483648, also from the least seeds on. */
    private static void seeds() {
        for (int seed : new int[] {0, 1, 2, 3, 4, 999998, 999999}) {
            TreeMap<Integer, Integer> want = new TreeMap<>();
            Draw draw = Draw.first(seed);
            for (int i = 0; i < 100; i++, draw = draw.next()) {
                if (draw.takesAway()) {
                    want.remove(draw.key());
                } else {
                    want.put(draw.key(), draw.value());
                }
            }
            Boundary.changes("28: n 100, seed " + seed, JoinMaps::new, x -> x.scatter(0, seed, 100), want.size(),
                    "a=" + textOf(want));
        }
        Boundary.refuses("28: BAD: seed -1", () -> Boundary.of(1, 1), x -> x.scatter(0, -1, 1), BAD);
        Boundary.refuses("28: BAD: seed 1000000", () -> Boundary.of(1, 1), x -> x.scatter(0, 1000000, 1), BAD);
    }

    /** An object whose map 0 has so many entries, 200 at most; the one key is among them, the other one is not. */
    private static JoinMaps having(int n, int there, int missing) {
        JoinMaps x = new JoinMaps();
        for (int from = -500; from <= 100; from += 300) {
            if (!isAmong(there, from) && !isAmong(missing, from)) {
                x.fill(0, from, n - 1, 1);
            }
        }
        x.put(0, there, 7);
        Check.due("the map has as many as wanted", x.size(0), n);
        return x;
    }

    private static boolean isAmong(int key, int from) {
        return key >= from && key < from + 200;
    }

    private static void full() {
        int puts = seedOf(draw -> !draw.takesAway(), any -> true);
        int key = Draw.first(puts).key();
        int other = key == 1 ? 3 : 1;
        Boundary.changes("28: the 200th", () -> having(199, other, key), x -> x.scatter(0, puts, 1), 200);
        Boundary.refuses("28: FULL: the 201st", () -> having(200, other, key), x -> x.scatter(0, puts, 1), FULL);
        Boundary.changes("28: in place, 200 there", () -> having(200, key, other), x -> x.scatter(0, puts, 1), 200);
        int takes = seedOf(Draw::takesAway, any -> true);
        int taken = Draw.first(takes).key();
        Boundary.changes("28: taken away of 200", () -> having(200, taken, 1), x -> x.scatter(0, takes, 1), 199);
        Boundary.changes("28: not there, of 200", () -> having(200, 1, taken), x -> x.scatter(0, takes, 1), 200);
    }

    /** "more than 200 at any time": 201 on the way, though 200 would be left at the end. */
    private static void fullOnTheWay() {
        int seed = seedOf(draw -> !draw.takesAway(), Draw::takesAway);
        Draw draw = Draw.first(seed);
        int put = draw.key();
        int taken = draw.next().key();
        Check.holds("the seed draws two KEYS", put != taken);
        Boundary.changes("28: 200 on the way", () -> having(199, taken, put), x -> x.scatter(0, seed, 2), 199);
        Boundary.refuses("28: FULL: 201 on the way", () -> having(200, taken, put), x -> x.scatter(0, seed, 2), FULL);
        int other = seedOf(Draw::takesAway, next -> !next.takesAway());
        int first = Draw.first(other).key();
        int second = Draw.first(other).next().key();
        Check.holds("the seed draws two KEYS", first != second);
        Boundary.changes("28: 199 on the way", () -> having(200, first, second), x -> x.scatter(0, other, 2), 200);
    }

    /** "nothing is done": what was drawn ahead of the one too many is not done either. */
    private static void fullUndone() {
        JoinMaps x = Boundary.filled(150);
        x.share(0, 1);
        int before = x.told(3);
        Check.due("28: FULL", x.scatter(0, 1, 100), FULL);
        Check.due("28: nothing is done", x.same(0, 1), 1);
        Check.due("28: nothing is done, no VERSION", x.told(3), before);
        Check.due("28: refused once", x.told(2), 1);
    }
}

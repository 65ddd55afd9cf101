/** VERSIONS, "refused", and promises 30 to 32 and 34 to 36: each sentence of a boundary case with a test of its own. */
public final class BoundaryVersionsTest {
    private static final int BAD = JoinMaps.BAD, NO = JoinMaps.NO, FULL = JoinMaps.FULL;

    private BoundaryVersionsTest() {
    }

    public static void main(String[] args) {
        mixer();
        type();
        clear();
        backToNothing();
        twelveAtMost();
        olderOnesLost();
        backAndOn();
        backBringsAllMaps();
        backLeavesTheRest();
        puttingWhatWasThere();
        noVersionOfOthers();
        toldOfRefusals();
        toldOfTheRest();
        digest();
        digestWrapsAround();
        Check.end();
    }

    private static JoinMaps of(int... entries) {
        return Boundary.of(entries);
    }

    private static JoinMaps typed(int bytes) {
        return Boundary.typed(new JoinMaps(), " ".repeat(bytes));
    }

    private static JoinMaps mixing(int kind) {
        JoinMaps x = of(1, 1);
        x.mixer(kind);
        return x;
    }

    private static void mixer() {
        for (int kinds = 0; kinds < 6; kinds++) {
            int kind = kinds;
            Boundary.answers("30: what it was, the same again", () -> mixing(kind), x -> x.mixer(kind), kind);
            Check.due("30: what it was", mixing(kind).mixer(5 - kind), kind);
        }
        Boundary.refuses("30: BAD: 6", () -> mixing(3), x -> x.mixer(6), BAD);
        Boundary.refuses("30: BAD: -1", () -> mixing(3), x -> x.mixer(-1), BAD);
        Check.due("30: no VERSION", mixing(3).told(3), 1);
    }

    private static void type() {
        Check.due("31: the first", new JoinMaps().type(0), 1);
        Check.due("31: the greatest byte", new JoinMaps().type(127), 1);
        Check.due("31: the 120th", typed(119).type(127), 120);
        Boundary.refuses("31: FULL: 120", () -> typed(120), x -> x.type('a'), FULL);
        Boundary.refuses("31: BAD: 128", () -> typed(3), x -> x.type(128), BAD);
        Boundary.refuses("31: BAD: -1", () -> typed(3), x -> x.type(-1), BAD);
        Boundary.refuses("31: BAD ahead of FULL", () -> typed(120), x -> x.type(128), BAD);
        JoinMaps x = typed(120);
        x.clear();
        Check.due("31: the first again", x.type('a'), 1);
        Check.due("31: no VERSION", x.told(3), 0);
        twoFullTexts();
    }

    /** The 120th byte counts, and one that was refused does not. */
    private static void twoFullTexts() {
        String text = "a={1};" + " ".repeat(113);
        JoinMaps x = Boundary.typed(new JoinMaps(), text + ";");
        Check.due("31: the 120th byte is there", x.sums(), -10 - 119);
        JoinMaps y = Boundary.typed(new JoinMaps(), text + " ;");
        Check.due("31: the 121st byte is not", y.sums(), 1);
    }

    private static void clear() {
        Boundary.answers("32: an empty one", JoinMaps::new, x -> x.clear(), 0);
        Check.due("32: one byte", typed(1).clear(), 1);
        Check.due("32: 120", typed(120).clear(), 120);
        JoinMaps x = Boundary.typed(of(1, 1), "a={};b={};");
        x.clear();
        Check.due("32: empty then", x.told(4), 0);
        Check.due("32: empty then", x.clear(), 0);
        Check.due("32: nothing is left of it", x.sums(), -10);
        Check.due("32: no VERSION", x.told(3), 1);
        Boundary.typed(x, "a");
        Check.due("32: nothing is left behind what is new", x.sums(), -11);
    }

    private static void backToNothing() {
        Boundary.refuses("34: NO: none", JoinMaps::new, x -> x.back(), NO);
        Boundary.refuses("34: NO: none, after refused calls", () -> {
            JoinMaps x = new JoinMaps();
            x.put(0, 501, 0);
            x.remove(0, 0);
            return x;
        }, x -> x.back(), NO);
        Boundary.refuses("34: NO: none left", () -> {
            JoinMaps x = of(1, 1);
            x.back();
            return x;
        }, x -> x.back(), NO);
    }

    /** So many puts, each with a key of its own from 1 on. */
    private static JoinMaps puts(int n) {
        JoinMaps x = new JoinMaps();
        for (int k = 1; k <= n; k++) {
            x.put(0, k, k);
        }
        return x;
    }

    private static void twelveAtMost() {
        int[][] cases = {{0, 0}, {1, 1}, {11, 11}, {12, 12}, {13, 12}, {14, 12}, {24, 12}, {25, 12}, {40, 12}};
        for (int[] c : cases) {
            Check.due("VERSIONS: 12 at most, of " + c[0], puts(c[0]).told(3), c[1]);
        }
    }

    /** However many there were, the last 12 can be gone back to, and no further. */
    private static void olderOnesLost() {
        for (int n : new int[] {12, 13, 14, 23, 24, 25, 36, 37, 100}) {
            JoinMaps x = puts(n);
            for (int left = 11; left >= 0; left--) {
                Check.due("34: how many are left, of " + n, x.back(), left);
                Check.due("34: as ahead of the last call, of " + n, x.size(0), n - 12 + left);
                Check.due("34: the greatest KEY, of " + n, x.rank(0, 501), n - 12 + left);
            }
            Check.due("34: older ones lost, of " + n, x.back(), NO);
            Check.due("34: older ones lost, of " + n, x.size(0), n - 12);
        }
    }

    /** A way back leaves no version itself; new ones come behind those that are left. */
    private static void backAndOn() {
        JoinMaps x = puts(20);
        for (int i = 0; i < 5; i++) {
            x.back();
        }
        Check.due("34: 5 back", x.told(3), 7);
        x.put(1, 1, 1);
        Check.due("34: 1 on", x.told(3), 8);
        Check.due("34: 1 back again", x.back(), 7);
        Check.due("34: 1 back again", x.size(1), 0);
        Check.due("34: 1 back again", x.size(0), 15);
        for (int i = 0; i < 6; i++) {
            x.put(1, i, i);
        }
        Check.due("34: 6 on", x.told(3), 12);
        Check.due("34: 6 on, 1 back", x.back(), 11);
        Check.due("34: 6 on, 1 back", x.size(1), 5);
        for (int left = 10; left >= 0; left--) {
            Check.due("34: all back", x.back(), left);
        }
        // Of the 7 that were left 1 was lost to the 6 that came: those of the puts 10 to 15 stay.
        Check.due("34: all back", x.size(0), 9);
        Check.due("34: all back", x.size(1), 0);
        Check.due("34: all back", x.back(), NO);
    }

    private static void backBringsAllMaps() {
        JoinMaps x = new JoinMaps();
        for (int m = 0; m < 6; m++) {
            x.put(m, m, m);
        }
        Check.write(x, "a={};b={};c={};d={};e={};f={9};");
        x.sums();
        Check.due("34: sums", x.told(6), 1);
        Check.due("34: back", x.back(), 6);
        for (int m = 0; m < 6; m++) {
            Check.dueMap("34: all MAPS", x, m, "{" + m + ":" + m + "}");
        }
        for (int m = 5; m >= 0; m--) {
            Check.due("34: back to none", x.back(), m);
            Check.due("34: back to none", x.told(6), m);
        }
    }

    private static void backLeavesTheRest() {
        JoinMaps x = of(1, 1);
        x.mixer(4);
        Check.write(x, "a=");
        x.put(0, 501, 0);
        x.remove(0, 2);
        Check.due("34: back", x.back(), 0);
        int[] want = {1, 1, 0, 0, 2, 4, 0};
        for (int what = 0; what < 7; what++) {
            Check.due("34: MAPS alone go back, told " + what, x.told(what), want[what]);
        }
    }

    /** "one that puts in place what was there likewise": each call told V leaves its version, whatever it changed. */
    private static void puttingWhatWasThere() {
        Boundary.Made made = () -> Boundary.typed(of(1, 1), "a=a;");
        String same = "a={1:1}";
        Boundary.changes("VERSIONS: put", made, x -> x.put(0, 1, 1), 1, same);
        Boundary.changes("VERSIONS: cut", made, x -> x.cut(0, 2, 1), 0, same);
        Boundary.changes("VERSIONS: glue", made, x -> x.glue(0, 1), 1, same);
        Boundary.changes("VERSIONS: share", made, x -> x.share(0, 0), 1, same);
        Boundary.changes("VERSIONS: mix", made, x -> x.mix(0, 0, 0, 0), 1, same);
        Boundary.changes("VERSIONS: fill", made, x -> x.fill(0, 1, 1, 1), 1, same);
        Boundary.changes("VERSIONS: sieve", made, x -> x.sieve(0, 0, 0, 0), 1, same);
        Boundary.changes("VERSIONS: raise", made, x -> x.raise(0, 1, 1, 0), 1, same);
        Boundary.changes("VERSIONS: slide", made, x -> x.slide(0, 0), 1, same);
        Boundary.changes("VERSIONS: zip", made, x -> x.zip(0, 0, 0), 1, same);
        Boundary.changes("VERSIONS: clears", made, x -> x.clears(0, 2, 2), 0, same);
        Boundary.changes("VERSIONS: scatter", made, x -> x.scatter(0, 0, 1), 1, same);
        Boundary.changes("VERSIONS: sums", made, x -> x.sums(), 1, same);
    }

    private static void noVersionOfOthers() {
        JoinMaps x = of(1, 1);
        Boundary.Call[] calls = {y -> y.get(0, 1), y -> y.size(0), y -> y.rank(0, 0), y -> y.nth(0, 0),
                y -> y.near(0, 0, 1), y -> y.within(0, 0, 0), y -> y.sum(0, 0, 0), y -> y.most(0, 0, 0, 0),
                y -> y.middle(0, 0, 0), y -> y.gap(0), y -> y.top(0, 0), y -> y.same(0, 1), y -> y.common(0, 1),
                y -> y.apart(0, 1), y -> y.sound(0), y -> y.mixer(1), y -> y.type(' '), y -> y.sums(),
                y -> y.clear(), y -> y.told(0), y -> y.digest(), y -> y.put(0, 501, 0), y -> y.remove(0, 0)};
        for (int i = 0; i < calls.length; i++) {
            calls[i].applyAsLong(x);
            Check.due("VERSIONS: not of call " + i, x.told(3), 1);
        }
    }

    private static void toldOfRefusals() {
        JoinMaps x = new JoinMaps();
        for (int i = 1; i <= 130; i++) {
            x.size(6);
            Check.due("35: BAD", x.told(0), i);
        }
        for (int i = 1; i <= 5; i++) {
            x.back();
            Check.due("35: NO", x.told(1), i);
        }
        x.fill(0, 0, 200, 1);
        for (int i = 1; i <= 5; i++) {
            x.put(0, -1, 0);
            Check.due("35: FULL", x.told(2), i);
        }
        Check.due("35: each for itself", x.told(0) * 10000 + x.told(1) * 100 + x.told(2), 1300505);
        Boundary.refuses("35: BAD: 7", () -> of(1, 1), y -> y.told(7), BAD);
        Boundary.refuses("35: BAD: -1", () -> of(1, 1), y -> y.told(-1), BAD);
        Boundary.answers("35: NONE is not refused", () -> of(1, 1), y -> y.get(0, 0), JoinMaps.NONE);
        Boundary.answers("35: a FAULT is not refused", () -> of(1, 1), y -> y.sums(), -10);
    }

    private static void toldOfTheRest() {
        JoinMaps x = Boundary.filled(200);
        for (int m = 1; m < 6; m++) {
            x.share(0, m);
        }
        Check.due("35: ENTRIES of all MAPS at the most", x.told(6), 1200);
        Check.due("35: VERSIONS", x.told(3), 6);
        Check.due("35: bytes of THE TEXT, none", x.told(4), 0);
        Check.due("35: bytes of THE TEXT, 120", typed(120).told(4), 120);
        Check.due("35: THE MIXER's KIND at the most", mixing(5).told(5), 5);
    }

    private static long chained(long... numbers) {
        long h = 1889;
        for (long v : numbers) {
            h = 31 * h + v;
        }
        return h;
    }

    private static void digest() {
        Check.due("36: a new object", new JoinMaps().digest(), chained(0, 0, 0, 0, 0, 0, 0, 0, 0, 0, 0, 0, 0));
        JoinMaps x = Boundary.with(of(500, -1000000, -500, 1000000), 5, 0, 0);
        x.size(6);
        x.remove(0, 0);
        x.remove(0, 0);
        x.mixer(5);
        x.type(0);
        long want = chained(1, 2, 0, 3, 1, 5, 3, 2, -500, 1000000, 500, -1000000, 0, 0, 0, 0, 1, 0, 0);
        Check.due("36: KEYS with VALUES, rising", x.digest(), want);
        Boundary.answers("36: changes nothing", () -> of(1, 1), JoinMaps::digest,
                chained(0, 0, 0, 1, 0, 0, 1, 1, 1, 1, 0, 0, 0, 0, 0));
    }

    /** Some 2400 numbers, in Java's long, which wraps around. */
    private static void digestWrapsAround() {
        JoinMaps x = Boundary.filled(200);
        long[] numbers = new long[13 + 6 * 400];
        numbers[3] = 6;
        numbers[6] = 1200;
        int at = 7;
        for (int m = 0; m < 6; m++) {
            if (m > 0) {
                x.share(0, m);
            }
            numbers[at++] = 200;
            for (int k = -500; k < -300; k++) {
                numbers[at++] = k;
                numbers[at++] = -500 * k;
            }
        }
        Check.due("36: of six full MAPS", x.digest(), chained(numbers));
    }
}

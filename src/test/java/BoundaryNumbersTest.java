import java.lang.reflect.Method;
import java.util.Arrays;
import java.util.Map;
import java.util.TreeMap;

/**
 * "BAD: a number is not as told", of each number of each call: the least and the greatest that are told are taken, one
 * below and one above are refused, and so are those far off, whose low bits would be as told.
 */
public final class BoundaryNumbersTest {
    private static final int ANY = Integer.MAX_VALUE;

    /** Of each call: numbers that are as told; the least that each may be beside the others; the greatest, likewise. */
    private static final Object[][] CALLS = {
            {"put", n(2, 7, 7), n(0, -500, -1000000), n(5, 500, 1000000)},
            {"remove", n(2, 7), n(0, -500), n(5, 500)},
            {"get", n(2, 7), n(0, -500), n(5, 500)},
            {"size", n(2), n(0), n(5)},
            {"rank", n(2, 7), n(0, -501), n(5, 501)},
            {"nth", n(2, 1), n(0, 0), n(5, ANY)},
            {"near", n(2, 7, 1), n(0, -500, 1), n(5, 500, 1)},
            {"near", n(2, 7, -1), n(0, -500, -1), n(5, 500, -1)},
            {"within", n(2, 7, 7), n(0, -500, 7), n(5, 7, 500)},
            {"sum", n(2, 7, 7), n(0, -500, 7), n(5, 7, 500)},
            {"most", n(2, 7, 7, 1), n(0, -500, 7, 0), n(5, 7, 500, 1)},
            {"middle", n(2, 7, 7), n(0, -500, 7), n(5, 7, 500)},
            {"gap", n(2), n(0), n(5)},
            {"top", n(2, 1), n(0, 0), n(5, ANY)},
            {"same", n(2, 3), n(0, 0), n(5, 5)},
            {"common", n(2, 3), n(0, 0), n(5, 5)},
            {"apart", n(2, 3), n(0, 0), n(5, 5)},
            {"cut", n(2, 7, 3), n(0, -500, 0), n(5, 500, 5)},
            {"glue", n(2, 3), n(0, 0), n(5, 5)},
            {"share", n(2, 3), n(0, 0), n(5, 5)},
            {"mix", n(1, 2, 3, 4), n(0, 0, 0, 0), n(3, 5, 5, 5)},
            {"fill", n(2, 7, 7, 7), n(0, -500, 0, 1), n(5, 500, 200, 50)},
            {"sieve", n(2, 1, 7, 3), n(0, 0, -1000000, 0), n(5, 4, 1000000, 5)},
            {"raise", n(2, 7, 7, 7), n(0, -500, 7, -1000), n(5, 7, 500, 1000)},
            {"slide", n(2, 7), n(0, -1000), n(5, 1000)},
            {"zip", n(2, 3, 4), n(0, 0, 0), n(5, 5, 5)},
            {"clears", n(2, 7, 7), n(0, -500, 7), n(5, 7, 500)},
            {"scatter", n(2, 7, 7), n(0, 0, 0), n(5, 999999, 100)},
            {"sound", n(2), n(0), n(5)},
            {"mixer", n(2), n(0), n(5)},
            {"type", n(7), n(0), n(127)},
            {"told", n(2), n(0), n(6)}};

    private static final Map<String, Method> METHODS = new TreeMap<>();

    private BoundaryNumbersTest() {
    }

    public static void main(String[] args) {
        for (Method m : JoinMaps.class.getMethods()) {
            METHODS.put(m.getName(), m);
        }
        for (Object[] row : CALLS) {
            eachNumber((String) row[0], (int[]) row[1], (int[]) row[2], (int[]) row[3]);
        }
        waysBetween();
        rangesTheWrongWay();
        alikeMaps();
        allWrongAtOnce();
        Check.end();
    }

    private static int[] n(int... numbers) {
        return numbers;
    }

    /** Each map has something, the text too, and there are versions. */
    private static JoinMaps made() {
        JoinMaps x = new JoinMaps();
        for (int m = 0; m < 6; m++) {
            x.fill(m, 7 - 2 * m, 4, 3);
        }
        x.mixer(2);
        return Boundary.typed(x, "a=b+{7};");
    }

    private static void eachNumber(String name, int[] ordinary, int[] least, int[] greatest) {
        taken(name, ordinary);
        for (int i = 0; i < ordinary.length; i++) {
            taken(name, put(ordinary, i, least[i]));
            taken(name, put(ordinary, i, greatest[i]));
            refused(name, put(ordinary, i, least[i] - 1));
            refused(name, put(ordinary, i, Integer.MIN_VALUE));
            refused(name, put(ordinary, i, ordinary[i] ^ 1 << 31));
            if (greatest[i] != ANY) {
                refused(name, put(ordinary, i, greatest[i] + 1));
                refused(name, put(ordinary, i, Integer.MAX_VALUE));
                refused(name, put(ordinary, i, ordinary[i] + (1 << 24)));
                refused(name, put(ordinary, i, ordinary[i] + (1 << 30)));
            }
        }
    }

    private static int[] put(int[] numbers, int at, int number) {
        int[] out = numbers.clone();
        out[at] = number;
        return out;
    }

    private static void taken(String name, int[] numbers) {
        JoinMaps x = made();
        Check.holds(said(name, numbers) + " is BAD", call(x, name, numbers) != JoinMaps.BAD);
        Check.due(said(name, numbers) + ": told(0)", x.told(0), 0);
    }

    private static void refused(String name, int... numbers) {
        Boundary.refuses(said(name, numbers), BoundaryNumbersTest::made, x -> call(x, name, numbers), JoinMaps.BAD);
    }

    private static long call(JoinMaps x, String name, int... numbers) {
        Object[] given = Arrays.stream(numbers).boxed().toArray();
        try {
            return ((Number) METHODS.get(name).invoke(x, given)).longValue();
        } catch (ReflectiveOperationException e) {
            Check.fail(said(name, numbers) + " threw " + e.getCause());
            return 0;
        }
    }

    private static String said(String name, int[] numbers) {
        return name + Arrays.toString(numbers);
    }

    /** "way -1", "1": 0, between them, is neither. */
    private static void waysBetween() {
        refused("near", 0, 7, 0);
        refused("near", 0, 7, 2);
        refused("near", 0, 7, -2);
    }

    /** "a not above b, both -500 .. 500". */
    private static void rangesTheWrongWay() {
        int[][] ranges = {{1, 0}, {500, -500}, {-499, -500}, {500, 499}, {-501, 501}, {-501, -501}, {501, 501},
                {Integer.MIN_VALUE, Integer.MAX_VALUE}, {Integer.MAX_VALUE, Integer.MIN_VALUE}};
        for (int[] r : ranges) {
            refused("within", 0, r[0], r[1]);
            refused("sum", 0, r[0], r[1]);
            refused("most", 0, r[0], r[1], 0);
            refused("most", 0, r[0], r[1], 1);
            refused("middle", 0, r[0], r[1]);
            refused("raise", 0, r[0], r[1], 1);
            refused("clears", 0, r[0], r[1]);
        }
        for (int k : new int[] {-500, 0, 500}) {
            taken("within", n(0, k, k));
            taken("sum", n(0, k, k));
            taken("most", n(0, k, k, 0));
            taken("middle", n(0, k, k));
            taken("raise", n(0, k, k, 1));
            taken("clears", n(0, k, k));
        }
    }

    /** "BAD: alike m, to, too", of cut and glue; all other calls take alike maps. */
    private static void alikeMaps() {
        for (int m = 0; m < 6; m++) {
            refused("cut", m, 0, m);
            refused("glue", m, m);
            taken("same", n(m, m));
            taken("common", n(m, m));
            taken("apart", n(m, m));
            taken("share", n(m, m));
            taken("mix", n(0, m, m, m));
            taken("sieve", n(m, 0, 0, m));
            taken("zip", n(m, m, m));
        }
    }

    /** A call is refused once, however many of its numbers are wrong. */
    private static void allWrongAtOnce() {
        for (Object[] row : CALLS) {
            int[] numbers = new int[((int[]) row[1]).length];
            Arrays.fill(numbers, -2000000);
            refused((String) row[0], numbers);
            Arrays.fill(numbers, Integer.MIN_VALUE);
            refused((String) row[0], numbers);
        }
    }
}

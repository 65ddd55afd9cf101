/** "Held", MIXERS, UNION to EITHER, and the 512 calls, of the document's terms: each sentence with a test of its own. */
public final class BoundaryTermsTest {
    private static final int LEFT = 0, RIGHT = 1, SUM = 2, MOST = 3, LEAST = 4, APART = 5;
    private static final int TOP = 1000000;

    private BoundaryTermsTest() {
    }

    public static void main(String[] args) {
        left();
        right();
        sum();
        most();
        least();
        apart();
        mixedOnlyWhereBothAre();
        fiveHundredAndTwelveCalls();
        Check.end();
    }

    /** One KEY, VALUES a and b, mixed in all ways there are: by mix and by sums, as UNION and as MEET. */
    private static void mixes(String sentence, int kind, int a, int b, int want) {
        Boundary.Made made = () -> {
            JoinMaps x = Boundary.with(Boundary.of(7, a), 1, 7, b);
            x.mixer(kind);
            return x;
        };
        String map = "c={7:" + want + "}";
        String said = sentence + ", " + a + " and " + b;
        Boundary.changes(said, made, x -> x.mix(0, 0, 1, 2), 1, map);
        Boundary.changes(said, made, x -> x.mix(1, 0, 1, 2), 1, map);
        Boundary.changes(said, () -> Boundary.typed(made.get(), "c=a+b;"), x -> x.sums(), 1, map);
        Boundary.changes(said, () -> Boundary.typed(made.get(), "c=a&b;"), x -> x.sums(), 1, map);
    }

    private static void left() {
        mixes("LEFT: a", LEFT, TOP, -TOP, TOP);
        mixes("LEFT: a", LEFT, -TOP, TOP, -TOP);
        mixes("LEFT: a", LEFT, 0, 5, 0);
    }

    private static void right() {
        mixes("RIGHT: b", RIGHT, TOP, -TOP, -TOP);
        mixes("RIGHT: b", RIGHT, -TOP, TOP, TOP);
        mixes("RIGHT: b", RIGHT, 5, 0, 0);
    }

    private static void sum() {
        mixes("SUM, just not held", SUM, 500000, 500000, TOP);
        mixes("SUM, held by one", SUM, 500001, 500000, TOP);
        mixes("SUM, held at the most", SUM, TOP, TOP, TOP);
        mixes("SUM, just not held below", SUM, -500000, -500000, -TOP);
        mixes("SUM, held by one below", SUM, -500000, -500001, -TOP);
        mixes("SUM, held at the least", SUM, -TOP, -TOP, -TOP);
        mixes("SUM of both ends", SUM, TOP, -TOP, 0);
        mixes("SUM with 0", SUM, TOP, 0, TOP);
        mixes("SUM, one below", SUM, TOP, -1, 999999);
    }

    private static void most() {
        mixes("MOST, the left one", MOST, TOP, -TOP, TOP);
        mixes("MOST, the right one", MOST, -TOP, TOP, TOP);
        mixes("MOST, alike", MOST, -7, -7, -7);
        mixes("MOST, below 0", MOST, -8, -7, -7);
    }

    private static void least() {
        mixes("LEAST, the right one", LEAST, TOP, -TOP, -TOP);
        mixes("LEAST, the left one", LEAST, -TOP, TOP, -TOP);
        mixes("LEAST, alike at the top", LEAST, TOP, TOP, TOP);
        mixes("LEAST, alike at the bottom", LEAST, -TOP, -TOP, -TOP);
        mixes("LEAST, above 0", LEAST, 8, 7, 7);
    }

    /** SUM's is held ahead of what is taken from it, and all of it is held once more. */
    private static void apart() {
        mixes("APART, a less b", APART, 30, 4, 26);
        mixes("APART, SUM's held first", APART, TOP, 500000, 0);
        mixes("APART, SUM's held by one", APART, 500001, 500000, 0);
        mixes("APART, SUM's just not held", APART, 500000, 500000, 0);
        mixes("APART, SUM's held, both greatest", APART, TOP, TOP, -TOP);
        mixes("APART, SUM's held, both least", APART, -TOP, -TOP, TOP);
        mixes("APART, SUM's held below first", APART, -TOP, -500000, 0);
        mixes("APART, held at the end", APART, TOP, -TOP, TOP);
        mixes("APART, held at the end below", APART, -TOP, TOP, -TOP);
        mixes("APART, just not held", APART, 500000, -500000, TOP);
        mixes("APART, held by one", APART, 500001, -500000, TOP);
        mixes("APART, just not held below", APART, -500000, 500000, -TOP);
        mixes("APART, held by one below", APART, -500000, 500001, -TOP);
        mixes("APART, with 0", APART, TOP, 0, TOP);
    }

    /** "VALUES of KEYS of both mixed": those of one MAP alone stay as they are, whatever THE MIXER is. */
    private static void mixedOnlyWhereBothAre() {
        for (int kinds = LEFT; kinds <= APART; kinds++) {
            int kind = kinds;
            Boundary.Made made = () -> {
                JoinMaps x = Boundary.with(Boundary.of(1, 5, 2, 0), 1, 2, 0, 3, -6);
                x.mixer(kind);
                return x;
            };
            Boundary.changes("UNION, " + kind, made, x -> x.mix(0, 0, 1, 2), 3, "c={1:5,2:0,3:-6}");
            Boundary.changes("MEET, " + kind, made, x -> x.mix(1, 0, 1, 2), 1, "c={2:0}");
            Boundary.changes("LESS, " + kind, made, x -> x.mix(2, 0, 1, 2), 1, "c={1:5}");
            Boundary.changes("EITHER, " + kind, made, x -> x.mix(3, 0, 1, 2), 2, "c={1:5,3:-6}");
        }
    }

    /** "at most 512 calls": the dearest changes, one behind the other, up to the 512th call. */
    private static void fiveHundredAndTwelveCalls() {
        JoinMaps x = new JoinMaps();
        for (int call = 1; call <= 510; call++) {
            int n = call % 100 + 100;
            Check.due("call " + call, x.fill(call % 6, -500 + call % 7, n, 5), n);
        }
        Check.due("call 511", x.told(3), 12);
        Check.due("call 512", x.nth(510 % 6, 109), -500 + 510 % 7 + 109 * 5);
    }
}

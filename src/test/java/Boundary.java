import java.util.ArrayList;
import java.util.List;
import java.util.function.Supplier;
import java.util.function.ToLongFunction;

/**
 * What a sentence of the document asks of one call at a boundary, held against a twin of the object that is not called.
 * A digest tells a whole state in one call, so a test stays within the 512 calls that an object has.
 */
final class Boundary {
    private static final int NO_COUNT = -1;

    private Boundary() {
    }

    /** An object after some calls, made as often as a test needs it. */
    interface Made extends Supplier<JoinMaps> {
    }

    interface Call extends ToLongFunction<JoinMaps> {
    }

    /** A new object with entries key, value, key, value .. in map 0. */
    static JoinMaps of(int... entries) {
        return with(new JoinMaps(), 0, entries);
    }

    static JoinMaps with(JoinMaps x, int m, int... entries) {
        for (int i = 0; i < entries.length; i += 2) {
            x.put(m, entries[i], entries[i + 1]);
        }
        return x;
    }

    /** A new object whose map 0 has so many entries, keys from -500 on. */
    static JoinMaps filled(int n) {
        JoinMaps x = new JoinMaps();
        x.fill(0, -500, n, 1);
        return x;
    }

    static JoinMaps typed(JoinMaps x, String text) {
        Check.write(x, text);
        return x;
    }

    /** The call answers what is due and changes nothing at all. */
    static void answers(String sentence, Made made, Call call, long want) {
        JoinMaps x = made.get();
        long before = x.digest();
        Check.due(sentence, call.applyAsLong(x), want);
        Check.due(sentence + ": digest() stays", x.digest(), before);
        dueSame(sentence, x, made.get());
    }

    /** The call is refused: it is counted once, for this reason alone, and changes nothing else. */
    static void refuses(String sentence, Made made, Call call, int why) {
        JoinMaps x = made.get();
        JoinMaps twin = made.get();
        Check.due(sentence, call.applyAsLong(x), why);
        dueCounts(sentence, x, twin, JoinMaps.BAD - why);
        dueSame(sentence, x, twin);
    }

    /** The call, told V, answers what is due, leaves one version behind, makes these maps, and can be gone back from. */
    static void changes(String sentence, Made made, Call call, long want, String... maps) {
        JoinMaps x = made.get();
        JoinMaps twin = made.get();
        Check.due(sentence, call.applyAsLong(x), want);
        dueCounts(sentence, x, twin, NO_COUNT);
        Check.due(sentence + ": versions", x.told(3), twin.told(3) + 1);
        for (String map : maps) {
            Check.dueMap(sentence, x, map.charAt(0) - 'a', map.substring(2));
        }
        Check.due(sentence + ": back()", x.back(), twin.told(3));
        dueSame(sentence + ", then back", x, twin);
    }

    private static void dueCounts(String sentence, JoinMaps x, JoinMaps twin, int counted) {
        for (int what = 0; what < 3; what++) {
            int want = twin.told(what) + (what == counted ? 1 : 0);
            Check.due(sentence + ": told(" + what + ")", x.told(what), want);
        }
    }

    private static void dueSame(String sentence, JoinMaps x, JoinMaps twin) {
        Check.holds(sentence + ": something changed that should stay", wholeOf(x).equals(wholeOf(twin)));
    }

    /** All of an object but how often it refused: its maps, text and mixer, and each version. It is used up by this. */
    private static List<Long> wholeOf(JoinMaps x) {
        List<Long> all = new ArrayList<>();
        all.add(withoutRefusals(x));
        for (int i = x.told(3); i > 0; i--) {
            all.add((long) x.back());
            all.add(withoutRefusals(x));
        }
        // The bytes of the text are told by nothing but what sums make of them.
        all.add((long) x.sums());
        all.add(withoutRefusals(x));
        return all;
    }

    /** The digest, less what the three counts add to it: each counts by a power of 31, as many as numbers follow it. */
    private static long withoutRefusals(JoinMaps x) {
        int numbers = 13 + 2 * x.told(6);
        long h = x.digest();
        for (int what = 0; what < 3; what++) {
            h -= x.told(what) * power(31, numbers - 1 - what);
        }
        return h;
    }

    private static long power(long base, int times) {
        long product = 1;
        for (int i = 0; i < times; i++) {
            product *= base;
        }
        return product;
    }
}

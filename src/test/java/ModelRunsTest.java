import java.lang.reflect.InvocationTargetException;
import java.lang.reflect.Method;
import java.util.ArrayList;
import java.util.List;
import java.util.Map;
import java.util.Random;
import java.util.TreeMap;

/** Random runs of 512 calls: every answer is held against the model's, and the whole state as the digest tells it. */
public final class ModelRunsTest {
    private static final int RUNS = 600;
    private static final int CALLS = 512;

    /** A letter for what each number of a call stands for; see number(). */
    private static final Map<String, String> NUMBERS = new TreeMap<>(Map.ofEntries(
            Map.entry("put", "mkv"), Map.entry("remove", "mk"), Map.entry("get", "mk"), Map.entry("size", "m"),
            Map.entry("rank", "mr"), Map.entry("nth", "mi"), Map.entry("near", "mkw"), Map.entry("within", "mab"),
            Map.entry("sum", "mab"), Map.entry("most", "mabo"), Map.entry("middle", "mab"), Map.entry("gap", "m"),
            Map.entry("top", "mi"), Map.entry("same", "mm"), Map.entry("common", "mm"), Map.entry("apart", "mm"),
            Map.entry("cut", "mkm"), Map.entry("glue", "mm"), Map.entry("share", "mm"), Map.entry("mix", "smmm"),
            Map.entry("fill", "mknp"), Map.entry("sieve", "mKvm"), Map.entry("raise", "mabd"), Map.entry("slide", "md"),
            Map.entry("zip", "mmm"), Map.entry("clears", "mab"), Map.entry("scatter", "mSN"), Map.entry("sound", "m"),
            Map.entry("mixer", "M"), Map.entry("type", "c"), Map.entry("clear", ""), Map.entry("sums", ""),
            Map.entry("back", ""), Map.entry("told", "T"), Map.entry("digest", "")));

    private static final int[] EDGES = {Integer.MIN_VALUE, Integer.MAX_VALUE, -1000001, 1000001, -501, 501, -502, 502,
            -1, 0, 1, 5, 6, 7, 51, 101, 127, 128, 200, 201, -1000, 1000, 1001, -1001, 999999, 1000000, -1000000};

    private final Random random;
    private final JoinMaps x = new JoinMaps();
    private final Model model = new Model();
    private final List<String> names = new ArrayList<>(NUMBERS.keySet());
    private final Map<String, Method> calls = new TreeMap<>();
    private final Map<String, Method> modelCalls = new TreeMap<>();
    private final int run;
    private int lastRangeStart;

    private ModelRunsTest(int run) {
        this.run = run;
        this.random = new Random(run);
        for (Method m : JoinMaps.class.getDeclaredMethods()) {
            if (java.lang.reflect.Modifier.isPublic(m.getModifiers())) {
                calls.put(m.getName(), m);
            }
        }
        for (Method m : Model.class.getDeclaredMethods()) {
            if (NUMBERS.containsKey(m.getName())) {
                modelCalls.put(m.getName(), m);
            }
        }
    }

    public static void main(String[] args) {
        for (int run = 0; run < RUNS && Check.wrongSoFar() == 0; run++) {
            new ModelRunsTest(run).go();
        }
        Check.end();
    }

    private void go() {
        int made = 0;
        while (made < CALLS && Check.wrongSoFar() == 0) {
            if (random.nextInt(40) == 0) {
                made += typeText();
            } else {
                String name = names.get(random.nextInt(names.size()));
                // A text is seldom right by chance, so single bytes and wipings are left to typeText.
                boolean rare = name.equals("type") || name.equals("clear");
                if (!rare || random.nextInt(20) == 0) {
                    call(name, numbers(NUMBERS.get(name)));
                    made++;
                }
            }
            compareAll();
        }
    }

    private int typeText() {
        String text = TextMaker.text(random);
        call("clear");
        for (int i = 0; i < text.length(); i++) {
            call("type", (int) text.charAt(i));
        }
        call("sums");
        return text.length() + 2;
    }

    private void compareAll() {
        Check.due("run " + run + ": digest()", x.digest(), model.digest());
        for (int m = 0; m < 6; m++) {
            Check.due("run " + run + ": sound(" + m + ")", x.sound(m), 1);
        }
    }

    private void call(String name, Object... numbers) {
        try {
            long got = ((Number) calls.get(name).invoke(x, numbers)).longValue();
            long want = ((Number) modelCalls.get(name).invoke(model, numbers)).longValue();
            Check.due("run " + run + ": " + name + java.util.Arrays.toString(numbers), got, want);
        } catch (IllegalAccessException | InvocationTargetException e) {
            Check.fail("run " + run + ": " + name + java.util.Arrays.toString(numbers) + " threw " + e.getCause());
        }
    }

    private Object[] numbers(String letters) {
        Object[] out = new Object[letters.length()];
        for (int i = 0; i < out.length; i++) {
            out[i] = random.nextInt(80) == 0 ? EDGES[random.nextInt(EDGES.length)] : number(letters.charAt(i));
        }
        return out;
    }

    private int in(int least, int greatest) {
        int edge = random.nextInt(12);
        return edge == 0 ? least : edge == 1 ? greatest : least + random.nextInt(greatest - least + 1);
    }

    private int number(char letter) {
        switch (letter) {
            case 'm': return in(0, 5);
            case 'k': return in(-500, 500);
            case 'v': return random.nextBoolean() ? in(-20, 20) : in(-1000000, 1000000);
            case 'r': return in(-501, 501);
            case 'i': return in(0, 201);
            case 'w': return random.nextBoolean() ? 1 : -1;
            case 'a': lastRangeStart = in(-500, 500); return lastRangeStart;
            case 'b': return in(Math.max(-500, Math.min(500, lastRangeStart)), 500);
            case 'o': return random.nextInt(2);
            case 's': return random.nextInt(4);
            case 'n': return random.nextInt(3) == 0 ? in(0, 200) : in(0, 60);
            case 'p': return random.nextInt(3) == 0 ? in(1, 50) : in(1, 8);
            case 'K': return random.nextInt(5);
            case 'd': return random.nextInt(3) == 0 ? in(-1000, 1000) : in(-20, 20);
            case 'S': return in(0, 999999);
            case 'N': return in(0, 100);
            case 'M': return random.nextInt(6);
            case 'c': return in(0, 127);
            default: return random.nextInt(7);
        }
    }
}

import java.util.Random;

/** The trees within: that the bound holds, that sound() would see it if it did not, that nothing shared is changed. */
public final class TreeTest {
    private TreeTest() {
    }

    public static void main(String[] args) {
        soundSeesDamage();
        boundHolds();
        joinsOfAllSizes();
        Check.end();
    }

    private static void soundSeesDamage() {
        String[] fields = {"count", "key", "key", "value", "left", "right"};
        Object[] values = {9, 500, -500, 77, null, null};
        for (int i = 0; i < fields.length; i++) {
            JoinMaps x = new JoinMaps();
            x.fill(0, -3, 7, 1);
            Check.due("sound", x.sound(0), 1);
            Inside.write(Inside.root(x, 0), fields[i], values[i]);
            Check.due("sound with a wrong " + fields[i], x.sound(0), 0);
        }
        JoinMaps x = new JoinMaps();
        x.fill(0, -3, 7, 1);
        Inside.write(Inside.root(x, 0), "sum", 1L);
        Check.due("sound with a wrong sum", x.sound(0), 0);
        soundSeesKeys();
        soundSeesLeaning();
    }

    private static void soundSeesKeys() {
        int[][] keys = {{500, 1}, {-500, 1}, {501, 0}, {-501, 0}};
        for (int[] k : keys) {
            JoinMaps x = new JoinMaps();
            x.fill(0, 0, 1, 1);
            Inside.write(Inside.root(x, 0), "key", k[0]);
            Check.due("sound with key " + k[0], x.sound(0), k[1]);
        }
        for (String side : new String[] {"left", "right"}) {
            JoinMaps x = new JoinMaps();
            x.fill(0, 0, 3, 1);
            Inside.write(Inside.read(Inside.root(x, 0), side), "key", 1);
            Check.due("sound with like keys on the " + side, x.sound(0), 0);
        }
    }

    /** A chain to the right, with true counts and sums: of three entries it is within the bound, of four it is not. */
    private static void soundSeesLeaning() {
        JoinMaps x = new JoinMaps();
        x.fill(0, 0, 1, 1);
        for (int m = 1; m <= 3; m++) {
            x.fill(m, m, 1, 1);
            x.put(m, m, 0);
        }
        for (int m = 2; m >= 0; m--) {
            Inside.write(Inside.root(x, m), "right", Inside.root(x, m + 1));
            Inside.write(Inside.root(x, m), "count", 4 - m);
            Check.due("sound leaning, " + (4 - m) + " entries", x.sound(m), m == 0 ? 0 : 1);
        }
    }

    private static void looksWell(String what, JoinMaps x) {
        for (int m = 0; m < 6; m++) {
            Check.due(what + ": balance of map " + m, Inside.countIfBalanced(Inside.root(x, m)), x.size(m));
            Check.due(what + ": sound(" + m + ")", x.sound(m), 1);
        }
    }

    private static void boundHolds() {
        Random random = new Random(29);
        for (int run = 0; run < 40; run++) {
            JoinMaps x = new JoinMaps();
            for (int call = 0; call < 512; call++) {
                int m = random.nextInt(6);
                int k = random.nextInt(1001) - 500;
                switch (random.nextInt(8)) {
                    case 0: x.scatter(m, random.nextInt(1000000), random.nextInt(101)); break;
                    case 1: x.cut(m, k, random.nextInt(6)); break;
                    case 2: x.glue(m, random.nextInt(6)); break;
                    case 3: x.mix(random.nextInt(4), m, random.nextInt(6), random.nextInt(6)); break;
                    case 4: x.clears(m, Math.min(k, 0), Math.max(k, 0)); break;
                    case 5: x.fill(m, k, random.nextInt(100), 1 + random.nextInt(9)); break;
                    case 6: x.back(); break;
                    default: x.put(m, k, k); break;
                }
                looksWell("run " + run, x);
            }
        }
    }

    /** A tree of each size behind a tree of each size, with and without an entry between. */
    private static void joinsOfAllSizes() {
        for (int left = 0; left <= 199; left += 1 + left / 20) {
            for (int right = 0; left + right <= 199; right += 1 + right / 20) {
                JoinMaps x = new JoinMaps();
                x.fill(0, -500, left, 1);
                x.fill(1, 1, right, 1);
                Check.due("glue of " + left + " and " + right, x.glue(0, 1), left + right);
                Check.due("glue: sound", x.sound(0), 1);
                x.put(0, 0, 0);
                Check.due("put between " + left + " and " + right, Inside.countIfBalanced(Inside.root(x, 0)), left + right + 1);
                Check.due("put: sound", x.sound(0), 1);
            }
        }
    }
}

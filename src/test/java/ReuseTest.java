import java.util.Random;

/**
 * Nodes that nothing holds are used again: runs that need so many that this happens often, held against the model, with
 * many ways back, so that a node that a map, a version or a half-done sum still holds would be missed.
 */
public final class ReuseTest {
    private static final int RUNS = 60;
    private static final String[] TEXTS = {
            "a=(a-{1,2,3})+(b&a)-((a^b)&(a+{5,6}&a))+((b-a)&b);b=b+(a&b);",
            "f=(a+(a-{1}))-((b+(b-{2}))-((c+(c-{3}))-((d+(d-{4}))-(e&e))));e=e+(e&a);",
            "c=" + "(a&b)+".repeat(15) + "(a&c);d=(c-a)+(c&d);",
            "a=a+a;b=b+b;c=c+c;d=d+d;e=e+e;f=f+f;a=a+a;b=b+b;c=c+c;d=d+d;e=e+e;f=f+f;",
            "f=" + "(c&c)-((d&d)-".repeat(6) + "(e&e)" + ")".repeat(6) + ";"};

    private ReuseTest() {
    }

    public static void main(String[] args) {
        int tidied = 0;
        for (int run = 0; run < RUNS && Check.wrongSoFar() == 0; run++) {
            tidied += go(run);
        }
        Check.holds("nodes were used again " + tidied + " times", tidied > 20 * RUNS);
        Check.end();
    }

    /** Answers how often nodes were gathered for use again. */
    private static int go(int run) {
        Random random = new Random(run);
        JoinMaps x = new JoinMaps();
        Model model = new Model();
        String text = TEXTS[run % TEXTS.length];
        for (char c : text.toCharArray()) {
            x.type(c);
            model.type(c);
        }
        for (int m = 0; m < 6; m++) {
            int step = 3 + random.nextInt(3);
            x.fill(m, -500 + m, 190, step);
            model.fill(m, -500 + m, 190, step);
        }
        for (int i = 0; i < 380 && Check.wrongSoFar() == 0; i++) {
            change(random, x, model);
            Check.due("run " + run + ", call " + i + ": digest()", x.digest(), model.digest());
        }
        // The way back over all versions, each of which must be whole.
        for (int i = 0; i < 13; i++) {
            Check.due("run " + run + ": back()", x.back(), model.back());
            Check.due("run " + run + ": digest()", x.digest(), model.digest());
            for (int m = 0; m < 6; m++) {
                Check.due("run " + run + ": sound(" + m + ")", x.sound(m), 1);
            }
        }
        return (Integer) Inside.read(Inside.read(x, "grove"), "round");
    }

    private static void change(Random random, JoinMaps x, Model model) {
        int m = random.nextInt(6);
        int n = random.nextInt(1001) - 500;
        int seed = random.nextInt(1000000);
        switch (random.nextInt(7)) {
            case 0:
                Check.due("scatter", x.scatter(m, seed, 100), model.scatter(m, seed, 100));
                break;
            case 1:
                Check.due("back", x.back(), model.back());
                break;
            case 2:
                Check.due("fill", x.fill(m, -500 + seed % 9, 190, 5), model.fill(m, -500 + seed % 9, 190, 5));
                break;
            case 3:
                Check.due("raise", x.raise(m, -500, n, 7), model.raise(m, -500, n, 7));
                break;
            case 4:
                Check.due("mix", x.mix(seed % 4, m, seed % 6, seed % 5), model.mix(seed % 4, m, seed % 6, seed % 5));
                break;
            default:
                Check.due("sums", x.sums(), model.sums());
                break;
        }
    }
}

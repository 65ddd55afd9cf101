import java.util.Random;

/** Makes texts of sums: most are right, the rest have a byte put in, changed, taken away, or an end cut off. */
final class TextMaker {
    private static final String BYTES = "abcdefgA=+-^&(){},; 0123456789\t";

    private TextMaker() {
    }

    static String text(Random random) {
        StringBuilder out = new StringBuilder();
        int sums = 1 + random.nextInt(5);
        for (int i = 0; i < sums && out.length() < 100; i++) {
            out.append((char) ('a' + random.nextInt(6))).append(blank(random)).append('=');
            term(random, out, 0);
            out.append(';').append(blank(random));
        }
        if (random.nextInt(3) == 0) {
            spoil(random, out);
        }
        out.setLength(Math.min(out.length(), 121));
        return out.toString();
    }

    private static String blank(Random random) {
        return random.nextInt(6) == 0 ? " " : "";
    }

    private static void term(Random random, StringBuilder out, int deep) {
        int parts = 1 + random.nextInt(3);
        for (int i = 0; i < parts; i++) {
            if (i > 0) {
                out.append("+-^&&".charAt(random.nextInt(5)));
            }
            out.append(blank(random));
            atom(random, out, deep);
            out.append(blank(random));
        }
    }

    private static void atom(Random random, StringBuilder out, int deep) {
        int kind = random.nextInt(8);
        if (kind == 0 && deep < 20) {
            out.append('(');
            term(random, out, deep + 1);
            out.append(')');
        } else if (kind == 1) {
            out.append('{').append(blank(random));
            int n = random.nextInt(10);
            for (int i = 0; i < n; i++) {
                out.append(i > 0 ? "," : "").append(number(random)).append(blank(random));
            }
            out.append('}');
        } else {
            out.append((char) ('a' + random.nextInt(6)));
        }
    }

    private static String number(Random random) {
        int n = random.nextInt(30) == 0 ? random.nextInt(1200) : random.nextInt(30);
        String zeros = random.nextInt(10) == 0 ? "0" : random.nextInt(40) == 0 ? "00" : "";
        return (random.nextInt(4) == 0 ? "-" : "") + zeros + n;
    }

    private static void spoil(Random random, StringBuilder out) {
        int at = random.nextInt(out.length());
        char c = BYTES.charAt(random.nextInt(BYTES.length()));
        switch (random.nextInt(4)) {
            case 0: out.insert(at, c); break;
            case 1: out.setCharAt(at, c); break;
            case 2: out.deleteCharAt(at); break;
            default: out.setLength(at); break;
        }
    }
}

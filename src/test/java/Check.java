/** Counts answers that are not the ones that are due; shared by all tests. */
final class Check {
    static final int NONE = JoinMaps.NONE, BAD = JoinMaps.BAD, NO = JoinMaps.NO, FULL = JoinMaps.FULL;

    private static int wrong = 0;
    private static int looked = 0;
    private static final int SHOWN = 40;

    private Check() {
    }

    static void due(String call, long got, long want) {
        looked++;
        if (got != want) {
            fail(call + " answered " + got + ", due is " + want);
        }
    }

    static void holds(String what, boolean true_) {
        looked++;
        if (!true_) {
            fail(what);
        }
    }

    static void fail(String what) {
        wrong++;
        if (wrong <= SHOWN) {
            System.out.println(what);
        }
    }

    static int wrongSoFar() {
        return wrong;
    }

    /** Types a text in place of the one that stands there. */
    static void write(JoinMaps x, String text) {
        x.clear();
        for (int i = 0; i < text.length(); i++) {
            x.type(text.charAt(i));
        }
    }

    /** A map as a text, {key:value,..}, so that a whole map is looked at in one row. */
    static String show(JoinMaps x, int m) {
        StringBuilder out = new StringBuilder("{");
        for (int i = 0; i < x.size(m); i++) {
            int k = x.nth(m, i);
            out.append(i == 0 ? "" : ",").append(k).append(':').append(x.get(m, k));
        }
        return out.append('}').toString();
    }

    static void dueMap(String call, JoinMaps x, int m, String want) {
        looked++;
        String got = show(x, m);
        if (!got.equals(want)) {
            fail(call + ": map " + m + " is " + got + ", due is " + want);
        }
        due(call + ": sound(" + m + ")", x.sound(m), 1);
    }

    static void end() {
        System.out.println(wrong == 0 ? "all " + looked + " answers are as due" : wrong + " answers are not as due");
        if (wrong != 0) {
            System.exit(1);
        }
    }
}

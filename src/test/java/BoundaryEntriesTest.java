/** The sentences of promises 1 to 17 that name a boundary case, each with a test of its own. */
public final class BoundaryEntriesTest {
    private static final int NONE = JoinMaps.NONE, BAD = JoinMaps.BAD, NO = JoinMaps.NO, FULL = JoinMaps.FULL;

    private BoundaryEntriesTest() {
    }

    public static void main(String[] args) {
        newObject();
        putInPlace();
        putFull();
        remove();
        get();
        size();
        rank();
        nth();
        near();
        within();
        sum();
        most();
        middle();
        gap();
        top();
        same();
        common();
        apart();
        Check.end();
    }

    private static JoinMaps of(int... entries) {
        return Boundary.of(entries);
    }

    private static JoinMaps with(JoinMaps x, int m, int... entries) {
        return Boundary.with(x, m, entries);
    }

    private static JoinMaps filled(int n) {
        return Boundary.filled(n);
    }

    private static void newObject() {
        for (int map = 0; map < 6; map++) {
            int m = map;
            Boundary.answers("1: all MAPS empty", JoinMaps::new, x -> x.size(m), 0);
        }
        for (int what = 0; what < 7; what++) {
            int w = what;
            Boundary.answers("1: told " + w, JoinMaps::new, x -> x.told(w), 0);
        }
        Boundary.refuses("1: no VERSION", JoinMaps::new, x -> x.back(), NO);
        Boundary.answers("1: no TEXT", JoinMaps::new, x -> x.clear(), 0);
        Boundary.answers("1: THE MIXER's KIND is 0 at first", JoinMaps::new, x -> x.mixer(0), 0);
    }

    private static void putInPlace() {
        Boundary.changes("2: NONE: there was none", JoinMaps::new, x -> x.put(0, 0, 0), NONE, "a={0:0}");
        Boundary.changes("2: none in this MAP", () -> of(1, 5), x -> x.put(1, 1, 6), NONE, "a={1:5}", "b={1:6}");
        for (int v : new int[] {-1000000, -1, 0, 1, 1000000}) {
            Boundary.changes("2: its VALUE ahead", () -> of(1, v), x -> x.put(0, 1, 3), v, "a={1:3}");
            Boundary.changes("2: of the greatest VALUES", () -> of(1, 3), x -> x.put(0, 1, v), 3, "a={1:" + v + "}");
        }
        Boundary.changes("2: puts in place what was there", () -> of(1, 5), x -> x.put(0, 1, 5), 5, "a={1:5}");
        Boundary.changes("2: the least KEY", () -> of(0, 0), x -> x.put(0, -500, 1), NONE, "a={-500:1,0:0}");
        Boundary.changes("2: the greatest KEY", () -> of(0, 0), x -> x.put(0, 500, 1), NONE, "a={0:0,500:1}");
    }

    private static void putFull() {
        Boundary.changes("2: the 200th", () -> filled(199), x -> x.put(0, 0, 1), NONE);
        Boundary.refuses("2: FULL, the 201st", () -> filled(200), x -> x.put(0, 0, 1), FULL);
        Boundary.refuses("2: FULL, below all", () -> full(-499), x -> x.put(0, -500, 1), FULL);
        Boundary.changes("2: in place of one, 200 there", () -> filled(200), x -> x.put(0, -301, 1), 150500);
        Boundary.changes("2: another MAP is not full", () -> filled(200), x -> x.put(1, 0, 1), NONE);
        Boundary.refuses("2: BAD ahead of FULL, the KEY", () -> filled(200), x -> x.put(0, 501, 1), BAD);
        Boundary.refuses("2: BAD ahead of FULL, the VALUE", () -> filled(200), x -> x.put(0, 0, 1000001), BAD);
        JoinMaps x = new JoinMaps();
        for (int m = 0; m < 6; m++) {
            Check.due("2: 200 in each MAP", x.fill(m, -500, 200, 5), 200);
        }
        Check.due("2: 200 in each MAP", x.told(6), 1200);
        Check.due("2: the 200th, one by one", oneByOne().size(0), 200);
    }

    private static JoinMaps full(int from) {
        JoinMaps x = new JoinMaps();
        x.fill(0, from, 200, 1);
        return x;
    }

    private static JoinMaps oneByOne() {
        JoinMaps x = new JoinMaps();
        for (int k = 0; k < 210; k++) {
            Check.due("2: put " + k, x.put(0, k, k), k < 200 ? NONE : FULL);
        }
        return x;
    }

    private static void remove() {
        Boundary.changes("3: the only one", () -> of(1, 5), x -> x.remove(0, 1), 5, "a={}");
        Boundary.changes("3: the first", () -> of(-500, 4, 1, 5), x -> x.remove(0, -500), 4, "a={1:5}");
        Boundary.changes("3: the last", () -> of(1, 5, 500, 6), x -> x.remove(0, 500), 6, "a={1:5}");
        Boundary.changes("3: a VALUE of 0", () -> of(1, 0), x -> x.remove(0, 1), 0, "a={}");
        Boundary.changes("3: the least VALUE", () -> of(1, -1000000), x -> x.remove(0, 1), -1000000, "a={}");
        Boundary.changes("3: of 200", () -> filled(200), x -> x.remove(0, -500), 250000);
        Boundary.refuses("3: NO, an empty MAP", JoinMaps::new, x -> x.remove(0, 0), NO);
        Boundary.refuses("3: NO, between", () -> of(1, 1, 3, 3), x -> x.remove(0, 2), NO);
        Boundary.refuses("3: NO, below all", () -> of(1, 1), x -> x.remove(0, -500), NO);
        Boundary.refuses("3: NO, above all", () -> of(1, 1), x -> x.remove(0, 500), NO);
        Boundary.refuses("3: NO, in another MAP", () -> of(1, 1), x -> x.remove(1, 1), NO);
        Boundary.refuses("3: NO, taken away before", BoundaryEntriesTest::takenAway, x -> x.remove(0, 1), NO);
        Boundary.refuses("3: BAD ahead of NO", JoinMaps::new, x -> x.remove(0, 501), BAD);
    }

    private static JoinMaps takenAway() {
        JoinMaps x = of(1, 1, 2, 2);
        x.remove(0, 1);
        return x;
    }

    private static void get() {
        Boundary.answers("4: NONE, an empty MAP", JoinMaps::new, x -> x.get(0, 0), NONE);
        Boundary.answers("4: NONE, between", () -> of(1, 1, 3, 3), x -> x.get(0, 2), NONE);
        Boundary.answers("4: NONE, taken away", BoundaryEntriesTest::takenAway, x -> x.get(0, 1), NONE);
        Boundary.answers("4: NONE, in another MAP", () -> of(1, 1), x -> x.get(5, 1), NONE);
        Boundary.answers("4: a VALUE of 0", () -> of(1, 0), x -> x.get(0, 1), 0);
        Boundary.answers("4: the least KEY and VALUE", () -> of(-500, -1000000), x -> x.get(0, -500), -1000000);
        Boundary.answers("4: the greatest KEY and VALUE", () -> of(500, 1000000), x -> x.get(0, 500), 1000000);
    }

    private static void size() {
        Boundary.answers("5: empty", JoinMaps::new, x -> x.size(5), 0);
        Boundary.answers("5: one", () -> of(1, 1), x -> x.size(0), 1);
        Boundary.answers("5: of like KEYS one", () -> of(1, 1, 1, 2), x -> x.size(0), 1);
        Boundary.answers("5: 200", () -> filled(200), x -> x.size(0), 200);
        Boundary.answers("5: empty again", BoundaryEntriesTest::emptyAgain, x -> x.size(0), 0);
    }

    private static JoinMaps emptyAgain() {
        JoinMaps x = of(1, 1);
        x.remove(0, 1);
        return x;
    }

    private static void rank() {
        Boundary.Made edges = () -> of(-500, 0, 0, 0, 500, 0);
        Boundary.answers("6: k is -501", edges, x -> x.rank(0, -501), 0);
        Boundary.answers("6: the least KEY itself is not below", edges, x -> x.rank(0, -500), 0);
        Boundary.answers("6: behind the least KEY", edges, x -> x.rank(0, -499), 1);
        Boundary.answers("6: a KEY itself is not below", edges, x -> x.rank(0, 0), 1);
        Boundary.answers("6: the greatest KEY itself", edges, x -> x.rank(0, 500), 2);
        Boundary.answers("6: k is 501", edges, x -> x.rank(0, 501), 3);
        Boundary.answers("6: empty", JoinMaps::new, x -> x.rank(0, 501), 0);
        Boundary.answers("6: 200", () -> filled(200), x -> x.rank(0, 501), 200);
        Boundary.refuses("6: BAD: k not -501 .. 501", edges, x -> x.rank(0, -502), BAD);
        Boundary.refuses("6: BAD: k not -501 .. 501", edges, x -> x.rank(0, 502), BAD);
    }

    private static void nth() {
        Boundary.answers("7: from 0 on", () -> of(-500, 0, 500, 0), x -> x.nth(0, 0), -500);
        Boundary.answers("7: the last", () -> of(-500, 0, 500, 0), x -> x.nth(0, 1), 500);
        Boundary.answers("7: NONE behind the last", () -> of(-500, 0, 500, 0), x -> x.nth(0, 2), NONE);
        Boundary.answers("7: NONE, the greatest i", () -> of(1, 1), x -> x.nth(0, Integer.MAX_VALUE), NONE);
        Boundary.answers("7: NONE, an empty MAP", JoinMaps::new, x -> x.nth(0, 0), NONE);
        Boundary.answers("7: the 199th of 200", () -> filled(200), x -> x.nth(0, 199), -301);
        Boundary.answers("7: NONE, the 200th of 200", () -> filled(200), x -> x.nth(0, 200), NONE);
        Boundary.refuses("7: BAD: i below 0", () -> of(1, 1), x -> x.nth(0, -1), BAD);
        Boundary.refuses("7: BAD: i below 0, an empty MAP", JoinMaps::new, x -> x.nth(0, -1), BAD);
        Boundary.refuses("7: BAD: the least i", () -> of(1, 1), x -> x.nth(0, Integer.MIN_VALUE), BAD);
    }

    private static void near() {
        Boundary.Made two = () -> of(-10, 0, 10, 0);
        Boundary.answers("8: k itself, below", two, x -> x.near(0, 10, -1), 10);
        Boundary.answers("8: k itself, above", two, x -> x.near(0, -10, 1), -10);
        Boundary.answers("8: just below a KEY, below", two, x -> x.near(0, 9, -1), -10);
        Boundary.answers("8: just above a KEY, above", two, x -> x.near(0, -9, 1), 10);
        Boundary.answers("8: NONE k or below", two, x -> x.near(0, -11, -1), NONE);
        Boundary.answers("8: NONE k or above", two, x -> x.near(0, 11, 1), NONE);
        Boundary.answers("8: from the greatest k", two, x -> x.near(0, 500, -1), 10);
        Boundary.answers("8: from the least k", two, x -> x.near(0, -500, 1), -10);
        Boundary.answers("8: the least KEY", () -> of(-500, 0), x -> x.near(0, -500, -1), -500);
        Boundary.answers("8: the greatest KEY", () -> of(500, 0), x -> x.near(0, 500, 1), 500);
        Boundary.answers("8: NONE, an empty MAP", JoinMaps::new, x -> x.near(0, 500, -1), NONE);
        Boundary.answers("8: NONE, an empty MAP", JoinMaps::new, x -> x.near(0, -500, 1), NONE);
        Boundary.refuses("8: BAD: way 0", two, x -> x.near(0, 10, 0), BAD);
        Boundary.refuses("8: BAD: k 501", two, x -> x.near(0, 501, -1), BAD);
        Boundary.refuses("8: BAD: k -501", two, x -> x.near(0, -501, 1), BAD);
    }

    private static void within() {
        Boundary.Made edges = () -> of(-500, 0, 1, 0, 2, 0, 500, 0);
        Boundary.answers("9: all KEYS", edges, x -> x.within(0, -500, 500), 4);
        Boundary.answers("9: a is b, there", edges, x -> x.within(0, 2, 2), 1);
        Boundary.answers("9: a is b, not there", edges, x -> x.within(0, 3, 3), 0);
        Boundary.answers("9: a and b themselves", edges, x -> x.within(0, 1, 2), 2);
        Boundary.answers("9: less the least", edges, x -> x.within(0, -499, 500), 3);
        Boundary.answers("9: less the greatest", edges, x -> x.within(0, -500, 499), 3);
        Boundary.answers("9: between KEYS", edges, x -> x.within(0, 3, 499), 0);
        Boundary.answers("9: empty", JoinMaps::new, x -> x.within(0, -500, 500), 0);
        Boundary.answers("9: 200", () -> filled(200), x -> x.within(0, -500, -301), 200);
        Boundary.refuses("9: BAD: a above b", edges, x -> x.within(0, 2, 1), BAD);
    }

    private static void sum() {
        Boundary.Made edges = () -> of(-500, 3, 1, 10, 2, -20, 500, 100);
        Boundary.answers("10: all KEYS", edges, x -> x.sum(0, -500, 500), 93);
        Boundary.answers("10: a is b", edges, x -> x.sum(0, 2, 2), -20);
        Boundary.answers("10: the least KEY", edges, x -> x.sum(0, -500, -500), 3);
        Boundary.answers("10: the greatest KEY", edges, x -> x.sum(0, 500, 500), 100);
        Boundary.answers("10: no KEY", edges, x -> x.sum(0, 3, 499), 0);
        Boundary.answers("10: empty", JoinMaps::new, x -> x.sum(0, -500, 500), 0);
        Boundary.refuses("10: BAD: a above b", edges, x -> x.sum(0, 2, 1), BAD);
        for (int v : new int[] {-1000000, 1000000}) {
            JoinMaps x = new JoinMaps();
            for (int k = 0; k < 200; k++) {
                x.put(0, k, v);
            }
            Check.due("10: 200 of the greatest VALUES", x.sum(0, 0, 199), 200L * v);
            Check.due("10: 199 of the greatest VALUES", x.sum(0, 1, 199), 199L * v);
        }
    }

    private static void most() {
        Boundary.Made edges = () -> of(-500, -5, 1, -9, 2, -1, 500, -7);
        Boundary.answers("11: the greatest, all below 0", edges, x -> x.most(0, -500, 500, 0), -1);
        Boundary.answers("11: the least", edges, x -> x.most(0, -500, 500, 1), -9);
        Boundary.answers("11: a itself", edges, x -> x.most(0, -500, 1, 0), -5);
        Boundary.answers("11: b itself", edges, x -> x.most(0, 2, 500, 1), -7);
        Boundary.answers("11: a is b", edges, x -> x.most(0, 1, 1, 0), -9);
        Boundary.answers("11: less a, b themselves", edges, x -> x.most(0, -499, 499, 1), -9);
        Boundary.answers("11: NONE: no such KEY", edges, x -> x.most(0, 3, 499, 0), NONE);
        Boundary.answers("11: NONE: no such KEY", edges, x -> x.most(0, 3, 499, 1), NONE);
        Boundary.answers("11: NONE, an empty MAP", JoinMaps::new, x -> x.most(0, -500, 500, 0), NONE);
        Boundary.answers("11: NONE, an empty MAP", JoinMaps::new, x -> x.most(0, -500, 500, 1), NONE);
        Boundary.Made ends = () -> of(1, 1000000, 2, -1000000);
        Boundary.answers("11: the greatest VALUE", ends, x -> x.most(0, 1, 2, 0), 1000000);
        Boundary.answers("11: the least VALUE", ends, x -> x.most(0, 1, 2, 1), -1000000);
        Boundary.answers("11: the least VALUE alone", ends, x -> x.most(0, 2, 2, 0), -1000000);
        Boundary.refuses("11: BAD: what 2", ends, x -> x.most(0, 1, 2, 2), BAD);
        Boundary.refuses("11: BAD, no such KEY", ends, x -> x.most(0, 3, 3, -1), BAD);
    }

    private static void middle() {
        Boundary.Made four = () -> of(-500, 0, 1, 0, 2, 0, 500, 0);
        Boundary.answers("12: of 4 the one with 1 below", four, x -> x.middle(0, -500, 500), 1);
        Boundary.answers("12: of 3 the one with 1 below", four, x -> x.middle(0, 1, 500), 2);
        Boundary.answers("12: of 2 the one with 0 below", four, x -> x.middle(0, 2, 500), 2);
        Boundary.answers("12: of 1", four, x -> x.middle(0, 500, 500), 500);
        Boundary.answers("12: NONE of 0", four, x -> x.middle(0, 3, 499), NONE);
        Boundary.answers("12: NONE, an empty MAP", JoinMaps::new, x -> x.middle(0, -500, 500), NONE);
        Boundary.answers("12: of 200 the one with 99 below", () -> filled(200), x -> x.middle(0, -500, 500), -401);
        Boundary.answers("12: of 199 the one with 99 below", () -> filled(199), x -> x.middle(0, -500, 500), -401);
        Boundary.refuses("12: BAD: a above b", four, x -> x.middle(0, 2, 1), BAD);
    }

    private static void gap() {
        Boundary.answers("13: NONE: empty", JoinMaps::new, x -> x.gap(0), NONE);
        Boundary.answers("13: NONE: one", () -> of(1, 1), x -> x.gap(0), NONE);
        Boundary.answers("13: NONE: one, the least", () -> of(-500, 1), x -> x.gap(0), NONE);
        Boundary.answers("13: NONE: one, the greatest", () -> of(500, 1), x -> x.gap(0), NONE);
        Boundary.answers("13: two", () -> of(1, 1, 2, 1), x -> x.gap(0), 1);
        Boundary.answers("13: the greatest there is", () -> of(-500, 1, 500, 1), x -> x.gap(0), 1000);
        Boundary.answers("13: the first step", () -> of(-9, 1, 1, 1, 3, 1), x -> x.gap(0), 10);
        Boundary.answers("13: the last step", () -> of(1, 1, 3, 1, 13, 1), x -> x.gap(0), 10);
        Boundary.answers("13: only to the next one", () -> of(0, 1, 4, 1, 8, 1), x -> x.gap(0), 4);
        Boundary.answers("13: 200", () -> filled(200), x -> x.gap(0), 1);
    }

    private static void top() {
        Boundary.Made like = () -> of(1, 5, 2, 9, 3, 5, -500, 5, 500, -1000000);
        int[] want = {2, -500, 1, 3, 500, NONE};
        for (int i = 0; i < want.length; i++) {
            int j = i;
            Boundary.answers("14: of like VALUES the least KEY ahead, " + j, like, x -> x.top(0, j), want[j]);
        }
        Boundary.answers("14: NONE, the greatest j", like, x -> x.top(0, Integer.MAX_VALUE), NONE);
        Boundary.answers("14: NONE, an empty MAP", JoinMaps::new, x -> x.top(0, 0), NONE);
        Boundary.answers("14: the greatest VALUE", () -> of(500, 1000000, 0, 999999), x -> x.top(0, 0), 500);
        Boundary.answers("14: the least VALUE", () -> of(500, -1000000, 0, -999999), x -> x.top(0, 1), 500);
        Boundary.Made alike = () -> of(-500, -1000000, 0, -1000000, 500, -1000000);
        Boundary.answers("14: like least VALUES", alike, x -> x.top(0, 0), -500);
        Boundary.answers("14: like least VALUES", alike, x -> x.top(0, 2), 500);
        Boundary.Made greatest = () -> of(-500, 1000000, 0, 1000000, 500, 1000000);
        Boundary.answers("14: like greatest VALUES", greatest, x -> x.top(0, 0), -500);
        Boundary.answers("14: like greatest VALUES", greatest, x -> x.top(0, 2), 500);
        Boundary.answers("14: the 199th of 200", () -> filled(200), x -> x.top(0, 199), -301);
        Boundary.answers("14: NONE, the 200th of 200", () -> filled(200), x -> x.top(0, 200), NONE);
        Boundary.refuses("14: BAD: j below 0", like, x -> x.top(0, -1), BAD);
        Boundary.refuses("14: BAD: j below 0, an empty MAP", JoinMaps::new, x -> x.top(0, -1), BAD);
    }

    private static void same() {
        Boundary.Made two = () -> with(of(1, 10, 500, 20), 1, 1, 10, 500, 20);
        Boundary.answers("15: 1, both empty", JoinMaps::new, x -> x.same(0, 1), 1);
        Boundary.answers("15: 1, itself", two, x -> x.same(0, 0), 1);
        Boundary.answers("15: 1, made one by one", two, x -> x.same(0, 1), 1);
        Boundary.answers("15: 0, one is empty", two, x -> x.same(0, 2), 0);
        Boundary.answers("15: 0, one is empty", two, x -> x.same(2, 0), 0);
        Boundary.answers("15: 0, the last VALUE", () -> with(of(1, 1, 2, 2), 1, 1, 1, 2, 3), x -> x.same(0, 1), 0);
        Boundary.answers("15: 0, a KEY more", () -> with(of(1, 1, 2, 2), 1, 1, 1), x -> x.same(0, 1), 0);
        Boundary.answers("15: 0, a KEY less", () -> with(of(1, 1, 2, 2), 1, 1, 1), x -> x.same(1, 0), 0);
        Boundary.answers("15: 0, like VALUES", () -> with(of(1, 5), 1, 2, 5), x -> x.same(0, 1), 0);
    }

    private static void common() {
        Boundary.Made two = () -> with(of(-500, 1, 2, 2, 500, 3), 1, -500, 9, 3, 3, 500, 9);
        Boundary.answers("16: with unlike VALUES, too", two, x -> x.common(0, 1), 2);
        Boundary.answers("16: the other way", two, x -> x.common(1, 0), 2);
        Boundary.answers("16: itself", two, x -> x.common(0, 0), 3);
        Boundary.answers("16: with an empty one", two, x -> x.common(0, 5), 0);
        Boundary.answers("16: with an empty one", two, x -> x.common(5, 0), 0);
        Boundary.answers("16: none", () -> with(of(1, 1), 1, 2, 2), x -> x.common(0, 1), 0);
        Boundary.answers("16: 200", () -> filled(200), x -> x.common(0, 0), 200);
    }

    private static void apart() {
        Boundary.Made two = () -> with(of(1, 1, 5, 5), 1, 1, 1, 5, 5);
        Boundary.answers("17: NONE, both empty", JoinMaps::new, x -> x.apart(0, 1), NONE);
        Boundary.answers("17: NONE, the same", two, x -> x.apart(0, 1), NONE);
        Boundary.answers("17: NONE, itself", two, x -> x.apart(0, 0), NONE);
        Boundary.answers("17: all of one, the other empty", two, x -> x.apart(0, 2), 1);
        Boundary.answers("17: all of one, the other empty", two, x -> x.apart(2, 0), 1);
        Boundary.answers("17: unlike VALUES", () -> with(of(1, 1, 5, 5), 1, 1, 1, 5, 6), x -> x.apart(0, 1), 5);
        Boundary.answers("17: in the left alone", () -> with(of(1, 1, 5, 5), 1, 5, 5), x -> x.apart(0, 1), 1);
        Boundary.answers("17: in the right alone", () -> with(of(5, 5), 1, 1, 1, 5, 5), x -> x.apart(0, 1), 1);
        Boundary.answers("17: behind the last", () -> with(of(1, 1), 1, 1, 1, 500, 5), x -> x.apart(0, 1), 500);
        Boundary.answers("17: behind the last", () -> with(of(1, 1), 1, 1, 1, 500, 5), x -> x.apart(1, 0), 500);
        Boundary.answers("17: the least of many", () -> with(of(-500, 1, 2, 2), 1, -500, 2, 3, 3), x -> x.apart(0, 1), -500);
    }
}

/** The sentences of promises 18 to 27 and 29 that name a boundary case, each with a test of its own. */
public final class BoundaryWholeMapsTest {
    private static final int BAD = JoinMaps.BAD, NO = JoinMaps.NO, FULL = JoinMaps.FULL;
    private static final int UNION = 0, MEET = 1, LESS = 2, EITHER = 3;

    private BoundaryWholeMapsTest() {
    }

    public static void main(String[] args) {
        cut();
        cutFull();
        glue();
        glueRefused();
        share();
        shareIsNoLink();
        mixWithEmptyOnes();
        mixInPlace();
        mixFull();
        fill();
        fillRefused();
        sieve();
        raise();
        slide();
        zip();
        clears();
        sound();
        smallBehindLarge();
        Check.end();
    }

    private static JoinMaps of(int... entries) {
        return Boundary.of(entries);
    }

    private static JoinMaps with(JoinMaps x, int m, int... entries) {
        return Boundary.with(x, m, entries);
    }

    private static JoinMaps filled(int n) {
        return Boundary.filled(n);
    }

    /** Map 0 with so many keys from -500 on, map 1 with so many from a key on. */
    private static JoinMaps two(int n, int from, int others) {
        JoinMaps x = filled(n);
        x.fill(1, from, others, 1);
        return x;
    }

    private static void cut() {
        Boundary.Made three = () -> with(of(-500, 1, 0, 2, 500, 3), 1, 7, 7);
        Boundary.changes("18: all", three, x -> x.cut(0, -500, 1), 3, "a={}", "b={-500:1,0:2,500:3}");
        Boundary.changes("18: k itself goes", three, x -> x.cut(0, 0, 1), 2, "a={-500:1}", "b={0:2,500:3}");
        Boundary.changes("18: just below k stays", three, x -> x.cut(0, 1, 1), 1, "a={-500:1,0:2}", "b={500:3}");
        Boundary.changes("18: the greatest k", three, x -> x.cut(0, 500, 1), 1, "a={-500:1,0:2}", "b={500:3}");
        Boundary.changes("18: none, in place of what it has", () -> with(of(1, 1), 1, 7, 7), x -> x.cut(0, 2, 1), 0,
                "a={1:1}", "b={}");
        Boundary.changes("18: of an empty one", () -> with(of(1, 1), 1, 7, 7), x -> x.cut(2, -500, 1), 0,
                "a={1:1}", "b={}", "c={}");
        Boundary.changes("18: both are empty", JoinMaps::new, x -> x.cut(0, 0, 1), 0, "a={}", "b={}");
        Boundary.refuses("18: BAD: alike m, to", three, x -> x.cut(0, 0, 0), BAD);
        Boundary.refuses("18: BAD: alike m, to, empty", three, x -> x.cut(5, 0, 5), BAD);
        Boundary.refuses("18: BAD: k 501", three, x -> x.cut(0, 501, 1), BAD);
        Boundary.refuses("18: BAD: k -501", three, x -> x.cut(0, -501, 1), BAD);
    }

    /** What goes comes in place of 200 entries, so there is never too much. */
    private static void cutFull() {
        Boundary.Made full = () -> two(200, 0, 200);
        Boundary.changes("18: 200 in place of 200", full, x -> x.cut(0, -500, 1), 200);
        Boundary.changes("18: 1 in place of 200", full, x -> x.cut(0, -301, 1), 1, "b={-301:150500}");
        Boundary.changes("18: none in place of 200", full, x -> x.cut(0, -300, 1), 0, "b={}");
    }

    private static void glue() {
        Boundary.changes("19: both empty", JoinMaps::new, x -> x.glue(0, 1), 0, "a={}", "b={}");
        Boundary.changes("19: b is empty", () -> of(1, 1), x -> x.glue(0, 1), 1, "a={1:1}", "b={}");
        Boundary.changes("19: a is empty", () -> of(1, 1), x -> x.glue(1, 0), 1, "a={}", "b={1:1}");
        Boundary.changes("19: the next KEY", () -> with(of(1, 1), 1, 2, 2), x -> x.glue(0, 1), 2,
                "a={1:1,2:2}", "b={}");
        Boundary.changes("19: the ends", () -> with(of(-500, 1), 1, 500, 2), x -> x.glue(0, 1), 2,
                "a={-500:1,500:2}", "b={}");
        Boundary.changes("19: 200", () -> two(150, 0, 50), x -> x.glue(0, 1), 200, "b={}");
        Boundary.changes("19: 200 and none", () -> filled(200), x -> x.glue(0, 1), 200, "b={}");
        Boundary.changes("19: none and 200", () -> filled(200), x -> x.glue(1, 0), 200, "a={}");
    }

    private static void glueRefused() {
        Boundary.refuses("19: BAD: alike", () -> of(1, 1), x -> x.glue(0, 0), BAD);
        Boundary.refuses("19: BAD: alike, empty", JoinMaps::new, x -> x.glue(3, 3), BAD);
        Boundary.refuses("19: BAD: alike, 200", () -> filled(200), x -> x.glue(0, 0), BAD);
        Boundary.refuses("19: NO: a KEY of both", () -> with(of(1, 1), 1, 1, 1), x -> x.glue(0, 1), NO);
        Boundary.refuses("19: NO: above", () -> with(of(2, 1), 1, 1, 1), x -> x.glue(0, 1), NO);
        Boundary.refuses("19: NO: the last of a alone", () -> with(of(1, 1, 9, 9), 1, 8, 8, 10, 10),
                x -> x.glue(0, 1), NO);
        Boundary.refuses("19: NO: between those of b", () -> with(of(5, 5), 1, 4, 4, 6, 6), x -> x.glue(0, 1), NO);
        Boundary.refuses("19: FULL: 201", () -> two(150, 0, 51), x -> x.glue(0, 1), FULL);
        Boundary.refuses("19: FULL: 400", () -> two(200, 0, 200), x -> x.glue(0, 1), FULL);
        Boundary.refuses("19: NO ahead of FULL", () -> two(200, -301, 200), x -> x.glue(0, 1), NO);
    }

    private static void share() {
        Boundary.changes("20: an empty one", () -> of(1, 1), x -> x.share(1, 0), 0, "a={}", "b={}");
        Boundary.changes("20: to an empty one", () -> of(1, 1), x -> x.share(0, 5), 1, "a={1:1}", "f={1:1}");
        Boundary.changes("20: with itself", () -> of(1, 1), x -> x.share(0, 0), 1, "a={1:1}");
        Boundary.changes("20: an empty one with itself", JoinMaps::new, x -> x.share(3, 3), 0, "d={}");
        Boundary.changes("20: 200 in place of 200", () -> two(200, 0, 200), x -> x.share(0, 1), 200);
        Boundary.changes("20: 1 in place of 200", () -> two(1, 0, 200), x -> x.share(0, 1), 1, "b={-500:250000}");
    }

    private static JoinMaps shared() {
        JoinMaps x = of(1, 1, 2, 2, 3, 3);
        x.share(0, 1);
        return x;
    }

    /** A map that is as another one stays so when that one is changed. */
    private static void shareIsNoLink() {
        String b = "b={1:1,2:2,3:3}";
        Boundary.Made made = BoundaryWholeMapsTest::shared;
        Boundary.changes("20: no link, put", made, x -> x.put(0, 2, 9), 2, "a={1:1,2:9,3:3}", b);
        Boundary.changes("20: no link, remove", made, x -> x.remove(0, 2), 2, "a={1:1,3:3}", b);
        Boundary.changes("20: no link, cut", made, x -> x.cut(0, 2, 2), 2, "a={1:1}", b, "c={2:2,3:3}");
        Boundary.changes("20: no link, raise", made, x -> x.raise(0, 1, 3, 1), 3, "a={1:2,2:3,3:4}", b);
        Boundary.changes("20: no link, slide", made, x -> x.slide(0, 1), 3, "a={2:1,3:2,4:3}", b);
        Boundary.changes("20: no link, clears", made, x -> x.clears(0, 1, 2), 2, "a={3:3}", b);
    }

    private static void mixWithEmptyOnes() {
        Boundary.Made one = () -> of(1, 5, 2, 6);
        Boundary.changes("21: UNION, right empty", one, x -> x.mix(UNION, 0, 1, 2), 2, "c={1:5,2:6}");
        Boundary.changes("21: UNION, left empty", one, x -> x.mix(UNION, 1, 0, 2), 2, "c={1:5,2:6}");
        Boundary.changes("21: MEET, right empty", one, x -> x.mix(MEET, 0, 1, 2), 0, "c={}");
        Boundary.changes("21: MEET, left empty", one, x -> x.mix(MEET, 1, 0, 2), 0, "c={}");
        Boundary.changes("21: LESS, right empty", one, x -> x.mix(LESS, 0, 1, 2), 2, "c={1:5,2:6}");
        Boundary.changes("21: LESS, left empty", one, x -> x.mix(LESS, 1, 0, 2), 0, "c={}");
        Boundary.changes("21: EITHER, right empty", one, x -> x.mix(EITHER, 0, 1, 2), 2, "c={1:5,2:6}");
        Boundary.changes("21: EITHER, left empty", one, x -> x.mix(EITHER, 1, 0, 2), 2, "c={1:5,2:6}");
        for (int sorts = UNION; sorts <= EITHER; sorts++) {
            int sort = sorts;
            Boundary.changes("21: both empty, " + sort, JoinMaps::new, x -> x.mix(sort, 0, 1, 2), 0, "c={}");
        }
    }

    private static JoinMaps mixed() {
        JoinMaps x = with(of(1, 5, 2, 6), 1, 2, 10, 3, 11);
        x.mixer(5);
        return x;
    }

    private static void mixInPlace() {
        Boundary.Made made = BoundaryWholeMapsTest::mixed;
        Boundary.changes("21: UNION to the left", made, x -> x.mix(UNION, 0, 1, 0), 3, "a={1:5,2:-4,3:11}",
                "b={2:10,3:11}");
        Boundary.changes("21: UNION to the right", made, x -> x.mix(UNION, 0, 1, 1), 3, "a={1:5,2:6}",
                "b={1:5,2:-4,3:11}");
        Boundary.changes("21: MEET to the right", made, x -> x.mix(MEET, 1, 0, 0), 1, "a={2:4}", "b={2:10,3:11}");
        Boundary.changes("21: LESS to the left", made, x -> x.mix(LESS, 0, 1, 0), 1, "a={1:5}");
        Boundary.changes("21: EITHER to the right", made, x -> x.mix(EITHER, 0, 1, 1), 2, "b={1:5,3:11}");
        Boundary.changes("21: UNION with itself", made, x -> x.mix(UNION, 0, 0, 0), 2, "a={1:0,2:0}");
        Boundary.changes("21: MEET with itself", made, x -> x.mix(MEET, 0, 0, 0), 2, "a={1:0,2:0}");
        Boundary.changes("21: LESS itself", made, x -> x.mix(LESS, 0, 0, 0), 0, "a={}");
        Boundary.changes("21: EITHER with itself", made, x -> x.mix(EITHER, 0, 0, 0), 0, "a={}");
    }

    private static void mixFull() {
        Boundary.changes("21: UNION, 200", () -> two(199, -302, 2), x -> x.mix(UNION, 0, 1, 2), 200);
        Boundary.refuses("21: FULL: UNION, 201", () -> two(200, -301, 2), x -> x.mix(UNION, 0, 1, 2), FULL);
        Boundary.refuses("21: FULL: UNION, 201, right", () -> two(200, -301, 2), x -> x.mix(UNION, 1, 0, 2), FULL);
        Boundary.refuses("21: FULL: UNION, 400", () -> two(200, 0, 200), x -> x.mix(UNION, 0, 1, 2), FULL);
        Boundary.refuses("21: FULL in place", () -> two(200, 0, 200), x -> x.mix(UNION, 0, 1, 0), FULL);
        Boundary.changes("21: UNION of like 200", () -> two(200, -500, 200), x -> x.mix(UNION, 0, 1, 2), 200);
        Boundary.changes("21: EITHER, 200", () -> two(200, -301, 2), x -> x.mix(EITHER, 0, 1, 2), 200);
        Boundary.refuses("21: FULL: EITHER, 201", () -> two(200, -301, 3), x -> x.mix(EITHER, 0, 1, 2), FULL);
        Boundary.refuses("21: FULL: EITHER, 400", () -> two(200, 0, 200), x -> x.mix(EITHER, 0, 1, 2), FULL);
        Boundary.changes("21: EITHER of like 200", () -> two(200, -500, 200), x -> x.mix(EITHER, 0, 1, 2), 0, "c={}");
        Boundary.changes("21: MEET of 200", () -> two(200, -500, 200), x -> x.mix(MEET, 0, 1, 2), 200);
        Boundary.changes("21: LESS of 200", () -> two(200, 0, 200), x -> x.mix(LESS, 0, 1, 2), 200);
        Boundary.refuses("21: BAD ahead of FULL", () -> two(200, 0, 200), x -> x.mix(UNION, 0, 1, 6), BAD);
    }

    private static void fill() {
        Boundary.changes("22: n 0", () -> of(1, 1), x -> x.fill(0, 500, 0, 50), 0, "a={}");
        Boundary.changes("22: n 0 of an empty one", JoinMaps::new, x -> x.fill(0, 500, 0, 50), 0, "a={}");
        Boundary.changes("22: n 1, the greatest from", () -> of(1, 1), x -> x.fill(0, 500, 1, 50), 1,
                "a={500:250000}");
        Boundary.changes("22: n 1, the least from", () -> of(1, 1), x -> x.fill(0, -500, 1, 50), 1,
                "a={-500:250000}");
        Boundary.changes("22: a KEY of 500", JoinMaps::new, x -> x.fill(0, 450, 2, 50), 2,
                "a={450:202500,500:225000}");
        Boundary.changes("22: of both signs", JoinMaps::new, x -> x.fill(0, -500, 21, 50), 21);
        Boundary.changes("22: from 0", JoinMaps::new, x -> x.fill(0, 0, 2, 1), 2, "a={0:0,1:0}");
        Boundary.changes("22: 200 in place of 200", () -> filled(200), x -> x.fill(0, 301, 200, 1), 200);
        Boundary.changes("22: 200 by 5", JoinMaps::new, x -> x.fill(5, -500, 200, 5), 200);
        JoinMaps x = new JoinMaps();
        x.fill(0, -500, 21, 50);
        Check.due("22: the least VALUE there is", x.get(0, 500), -250000);
        Check.due("22: the greatest VALUE there is", x.get(0, -500), 250000);
    }

    private static void fillRefused() {
        Boundary.refuses("22: NO: 501", () -> of(1, 1), x -> x.fill(0, 451, 2, 50), NO);
        Boundary.refuses("22: NO: 501 by 1", () -> of(1, 1), x -> x.fill(0, 302, 200, 1), NO);
        Boundary.refuses("22: NO: from 500", () -> of(1, 1), x -> x.fill(0, 500, 2, 1), NO);
        Boundary.refuses("22: NO: far above", () -> of(1, 1), x -> x.fill(0, 500, 200, 50), NO);
        Boundary.refuses("22: NO: the 200th alone", () -> of(1, 1), x -> x.fill(0, -494, 200, 5), NO);
        Boundary.refuses("22: BAD ahead of NO", () -> of(1, 1), x -> x.fill(0, 500, 201, 50), BAD);
        Boundary.refuses("22: BAD ahead of NO", () -> of(1, 1), x -> x.fill(0, 500, 200, 51), BAD);
        Boundary.refuses("22: BAD with n 0", () -> of(1, 1), x -> x.fill(0, 501, 0, 1), BAD);
        Boundary.refuses("22: BAD: step 0", () -> of(1, 1), x -> x.fill(0, 0, 2, 0), BAD);
        Boundary.refuses("22: BAD: step 0 with n 0", () -> of(1, 1), x -> x.fill(0, 0, 0, 0), BAD);
    }

    private static void sieve() {
        Boundary.Made made = () -> of(-2, 6, -1, 5, 0, 6, 1, 6, 2, 5);
        Boundary.changes("23: ALL", made, x -> x.sieve(0, 0, 1000000, 1), 5, "b={-2:6,-1:5,0:6,1:6,2:5}");
        Boundary.changes("23: EVEN, below 0 and 0 too", made, x -> x.sieve(0, 1, 1000000, 1), 3, "b={-2:6,0:6,2:5}");
        Boundary.changes("23: ABOVE, x itself is not", made, x -> x.sieve(0, 2, 5, 1), 3, "b={-2:6,0:6,1:6}");
        Boundary.changes("23: STEEP, KEY 0 is not above 0", made, x -> x.sieve(0, 3, 5, 1), 1, "b={1:6}");
        Boundary.changes("23: OUTSIDE", made, x -> x.sieve(0, 4, 5, 1), 4, "b={-2:6,-1:5,0:6,2:5}");
        Boundary.changes("23: none passes", made, x -> x.sieve(0, 2, 6, 0), 0, "a={}");
        Boundary.changes("23: in place", made, x -> x.sieve(0, 1, 0, 0), 3, "a={-2:6,0:6,2:5}");
        Boundary.changes("23: of an empty one", made, x -> x.sieve(1, 0, 0, 0), 0, "a={}");
        Boundary.Made ends = () -> of(-500, -1000000, 1, -1000000, 499, 999999, 500, 1000000);
        Boundary.changes("23: above the least x", ends, x -> x.sieve(0, 2, -1000000, 1), 2,
                "b={499:999999,500:1000000}");
        Boundary.changes("23: above all but the greatest", ends, x -> x.sieve(0, 3, 999999, 1), 1, "b={500:1000000}");
        Boundary.changes("23: above the greatest x", ends, x -> x.sieve(0, 3, 1000000, 1), 0, "b={}");
        Boundary.changes("23: not above the greatest x", ends, x -> x.sieve(0, 4, 1000000, 1), 4);
        Boundary.changes("23: 200 in place of 200", () -> two(200, 0, 200), x -> x.sieve(0, 0, 0, 1), 200);
        Boundary.refuses("23: BAD: KIND 5", made, x -> x.sieve(0, 5, 0, 1), BAD);
        Boundary.refuses("23: BAD: x, of ALL too", made, x -> x.sieve(0, 0, 1000001, 1), BAD);
        Boundary.refuses("23: BAD: x, of EVEN too", made, x -> x.sieve(0, 1, -1000001, 1), BAD);
    }

    private static void raise() {
        Boundary.Made ends = () -> of(-500, 999000, 0, 999001, 500, 1000000);
        Boundary.changes("24: held above", ends, x -> x.raise(0, -500, 500, 1000), 3,
                "a={-500:1000000,0:1000000,500:1000000}");
        Boundary.changes("24: not held yet", ends, x -> x.raise(0, -500, 0, 999), 2,
                "a={-500:999999,0:1000000,500:1000000}");
        Boundary.Made low = () -> of(-500, -999000, 0, -999001, 500, -1000000);
        Boundary.changes("24: held below", low, x -> x.raise(0, -500, 500, -1000), 3,
                "a={-500:-1000000,0:-1000000,500:-1000000}");
        Boundary.changes("24: up from the least", low, x -> x.raise(0, 500, 500, 1000), 1,
                "a={-500:-999000,0:-999001,500:-999000}");
        Boundary.Made three = () -> of(1, 10, 2, 20, 3, 30);
        Boundary.changes("24: a and b themselves", three, x -> x.raise(0, 1, 2, 5), 2, "a={1:15,2:25,3:30}");
        Boundary.changes("24: a is b", three, x -> x.raise(0, 2, 2, -5), 1, "a={1:10,2:15,3:30}");
        Boundary.changes("24: no KEY", three, x -> x.raise(0, 4, 500, 5), 0, "a={1:10,2:20,3:30}");
        Boundary.changes("24: by 0", three, x -> x.raise(0, 1, 3, 0), 3, "a={1:10,2:20,3:30}");
        Boundary.changes("24: an empty one", JoinMaps::new, x -> x.raise(0, -500, 500, 5), 0, "a={}");
        Boundary.changes("24: 200", () -> filled(200), x -> x.raise(0, -500, 500, 5), 200);
        Boundary.refuses("24: BAD: d 1001", three, x -> x.raise(0, 1, 3, 1001), BAD);
        Boundary.refuses("24: BAD: d -1001", three, x -> x.raise(0, 1, 3, -1001), BAD);
        Boundary.refuses("24: BAD: a above b", three, x -> x.raise(0, 3, 1, 5), BAD);
    }

    private static void slide() {
        Boundary.Made two = () -> of(-490, 1, 490, 2);
        Boundary.changes("25: to 500", two, x -> x.slide(0, 10), 2, "a={-480:1,500:2}");
        Boundary.changes("25: to -500", two, x -> x.slide(0, -10), 2, "a={-500:1,480:2}");
        Boundary.refuses("25: NO: one above 500", two, x -> x.slide(0, 11), NO);
        Boundary.refuses("25: NO: one below -500", two, x -> x.slide(0, -11), NO);
        Boundary.refuses("25: NO: all above 500", two, x -> x.slide(0, 1000), NO);
        Boundary.refuses("25: NO: all below -500", two, x -> x.slide(0, -1000), NO);
        Boundary.changes("25: by 0", two, x -> x.slide(0, 0), 2, "a={-490:1,490:2}");
        Boundary.changes("25: from end to end", () -> of(-500, 1), x -> x.slide(0, 1000), 1, "a={500:1}");
        Boundary.changes("25: from end to end", () -> of(500, 1), x -> x.slide(0, -1000), 1, "a={-500:1}");
        Boundary.refuses("25: NO: past the end", () -> of(-499, 1), x -> x.slide(0, 1000), NO);
        Boundary.changes("25: an empty one", JoinMaps::new, x -> x.slide(0, 1000), 0, "a={}");
        Boundary.changes("25: an empty one", JoinMaps::new, x -> x.slide(0, -1000), 0, "a={}");
        Boundary.changes("25: 200", () -> filled(200), x -> x.slide(0, 801), 200);
        Boundary.refuses("25: NO: the last of 200", () -> filled(200), x -> x.slide(0, 802), NO);
        Boundary.refuses("25: BAD ahead of NO", two, x -> x.slide(0, 1001), BAD);
        Boundary.refuses("25: BAD, an empty one", JoinMaps::new, x -> x.slide(0, -1001), BAD);
    }

    private static void zip() {
        Boundary.Made made = () -> with(of(1, 10, 2, 20, 3, 30), 1, -500, 0, 500, 0);
        Boundary.changes("26: b is smaller", made, x -> x.zip(0, 1, 2), 2, "c={1:-500,2:500}");
        Boundary.changes("26: a is smaller", made, x -> x.zip(1, 0, 2), 2, "c={-500:1,500:2}");
        Boundary.changes("26: to a", made, x -> x.zip(0, 1, 0), 2, "a={1:-500,2:500}", "b={-500:0,500:0}");
        Boundary.changes("26: to b", made, x -> x.zip(0, 1, 1), 2, "a={1:10,2:20,3:30}", "b={1:-500,2:500}");
        Boundary.changes("26: with itself", made, x -> x.zip(0, 0, 0), 3, "a={1:1,2:2,3:3}");
        Boundary.changes("26: b is empty", made, x -> x.zip(0, 2, 0), 0, "a={}");
        Boundary.changes("26: a is empty", made, x -> x.zip(2, 0, 0), 0, "a={}");
        Boundary.changes("26: all empty", JoinMaps::new, x -> x.zip(0, 1, 2), 0, "c={}");
        Boundary.changes("26: 200", () -> two(200, 0, 200), x -> x.zip(0, 1, 2), 200);
        JoinMaps x = two(200, 0, 200);
        x.zip(0, 1, 2);
        Check.due("26: the last with the last", x.get(2, -301), 199);
    }

    private static void clears() {
        Boundary.Made made = () -> of(-500, 1, 1, 2, 2, 3, 500, 4);
        Boundary.changes("27: all", made, x -> x.clears(0, -500, 500), 4, "a={}");
        Boundary.changes("27: a and b themselves", made, x -> x.clears(0, 1, 2), 2, "a={-500:1,500:4}");
        Boundary.changes("27: less the ends", made, x -> x.clears(0, -499, 499), 2, "a={-500:1,500:4}");
        Boundary.changes("27: the least", made, x -> x.clears(0, -500, -500), 1, "a={1:2,2:3,500:4}");
        Boundary.changes("27: the greatest", made, x -> x.clears(0, 500, 500), 1, "a={-500:1,1:2,2:3}");
        Boundary.changes("27: none", made, x -> x.clears(0, 3, 499), 0, "a={-500:1,1:2,2:3,500:4}");
        Boundary.changes("27: an empty one", JoinMaps::new, x -> x.clears(0, -500, 500), 0, "a={}");
        Boundary.changes("27: 200", () -> filled(200), x -> x.clears(0, -500, 500), 200, "a={}");
        Boundary.refuses("27: BAD: a above b", made, x -> x.clears(0, 2, 1), BAD);
    }

    private static void sound() {
        Boundary.answers("29: empty", JoinMaps::new, x -> x.sound(5), 1);
        Boundary.answers("29: one", () -> of(500, 1000000), x -> x.sound(0), 1);
        Boundary.answers("29: two", () -> of(500, 1, -500, 1), x -> x.sound(0), 1);
        Boundary.answers("29: 200", () -> filled(200), x -> x.sound(0), 1);
        Boundary.refuses("29: BAD", () -> filled(200), x -> x.sound(6), BAD);
    }

    /** A call that makes a map of few entries, or none, keeps nothing of the 200 that the one ahead of it made. */
    private static void smallBehindLarge() {
        Boundary.Call[] large = {x -> x.fill(2, 0, 200, 1), x -> x.sieve(0, 0, 0, 2), x -> x.raise(0, -500, 500, 0),
                x -> x.slide(0, 0), x -> x.zip(0, 0, 2), x -> x.share(0, 2), x -> x.gap(0), x -> x.same(0, 0)};
        for (int i = 0; i < large.length; i++) {
            Boundary.Call ahead = large[i];
            Boundary.Made made = () -> {
                JoinMaps x = Boundary.with(filled(200), 1, 7, 9);
                ahead.applyAsLong(x);
                return x;
            };
            String said = "behind a large one, " + i;
            Boundary.changes("22: " + said, made, x -> x.fill(3, 1, 1, 1), 1, "d={1:1}");
            Boundary.changes("23: " + said, made, x -> x.sieve(1, 0, 0, 3), 1, "d={7:9}");
            Boundary.changes("23: none " + said, made, x -> x.sieve(1, 1, 0, 3), 0, "d={}");
            Boundary.changes("24: " + said, made, x -> x.raise(1, 7, 7, 1), 1, "b={7:10}");
            Boundary.changes("25: " + said, made, x -> x.slide(1, 1), 1, "b={8:9}");
            Boundary.changes("26: " + said, made, x -> x.zip(1, 0, 3), 1, "d={7:-500}");
            Boundary.changes("26: none " + said, made, x -> x.zip(0, 4, 3), 0, "d={}");
            Boundary.answers("13: " + said, made, x -> x.gap(1), JoinMaps.NONE);
            Boundary.answers("11: " + said, made, x -> x.most(1, -500, 500, 0), 9);
            Boundary.answers("14: " + said, made, x -> x.top(1, 0), 7);
            Boundary.answers("16: " + said, made, x -> x.common(1, 4), 0);
            Boundary.answers("17: " + said, made, x -> x.apart(1, 4), 7);
        }
    }
}

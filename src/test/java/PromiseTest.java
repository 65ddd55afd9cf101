/** Each promise by hand: ordinary inputs, the edges that the document names, and wrong inputs. */
public final class PromiseTest {
    private static final int NONE = JoinMaps.NONE, BAD = JoinMaps.BAD, NO = JoinMaps.NO, FULL = JoinMaps.FULL;

    private PromiseTest() {
    }

    public static void main(String[] args) {
        newObject();
        put();
        remove();
        get();
        size();
        rank();
        nth();
        near();
        within();
        sum();
        most();
        middle();
        gap();
        top();
        same();
        common();
        apart();
        cut();
        glue();
        share();
        mixUnionAndMeet();
        mixLessAndEither();
        mixFull();
        fill();
        sieve();
        raise();
        slide();
        zip();
        clears();
        scatter();
        scatterDraws();
        sound();
        mixer();
        type();
        clear();
        sums();
        back();
        versionsOfEachCall();
        told();
        digest();
        refusedLeaveNothing();
        Check.end();
    }

    private static void due(String call, long got, long want) {
        Check.due(call, got, want);
    }

    private static void map(String call, JoinMaps x, int m, String want) {
        Check.dueMap(call, x, m, want);
    }

    private static JoinMaps with(JoinMaps x, int m, int... entries) {
        return Boundary.with(x, m, entries);
    }

    private static JoinMaps of(int... entries) {
        return Boundary.of(entries);
    }

    private static void newObject() {
        JoinMaps x = new JoinMaps();
        for (int m = 0; m < 6; m++) {
            map("a new object", x, m, "{}");
        }
        for (int what = 0; what <= 6; what++) {
            due("a new object: told(" + what + ")", x.told(what), 0);
        }
        long h = 1889;
        for (int i = 0; i < 13; i++) {
            h *= 31;
        }
        due("a new object: digest()", x.digest(), h);
    }

    private static void put() {
        JoinMaps x = new JoinMaps();
        due("put new", x.put(0, 5, 50), NONE);
        due("put again", x.put(0, 5, -7), 50);
        due("put edges", x.put(0, -500, -1000000), NONE);
        due("put edges", x.put(0, 500, 1000000), NONE);
        due("put edges", x.put(5, 500, 0), NONE);
        map("put", x, 0, "{-500:-1000000,5:-7,500:1000000}");
        map("put", x, 5, "{500:0}");
        due("put versions", x.told(3), 5);
        int[][] wrong = {{-1, 0, 0}, {6, 0, 0}, {0, -501, 0}, {0, 501, 0}, {0, 0, -1000001}, {0, 0, 1000001},
                {Integer.MIN_VALUE, 0, 0}, {0, Integer.MAX_VALUE, 0}, {0, 0, Integer.MIN_VALUE}};
        for (int[] w : wrong) {
            due("put wrong", x.put(w[0], w[1], w[2]), BAD);
        }
        due("put versions", x.told(3), 5);
        x.fill(1, -100, 200, 1);
        due("put full", x.put(1, 100, 1), FULL);
        due("put full, key there", x.put(1, 99, 1), -9900);
        due("put full and wrong", x.put(1, 100, 1000001), BAD);
        due("put full: size", x.size(1), 200);
    }

    private static void remove() {
        JoinMaps x = of(1, 10, 2, 20, 3, 30);
        due("remove", x.remove(0, 2), 20);
        map("remove", x, 0, "{1:10,3:30}");
        due("remove again", x.remove(0, 2), NO);
        due("remove of another map", x.remove(1, 1), NO);
        due("remove wrong", x.remove(6, 1), BAD);
        due("remove wrong", x.remove(-1, 1), BAD);
        due("remove wrong", x.remove(0, 501), BAD);
        due("remove wrong", x.remove(0, -501), BAD);
        due("remove versions", x.told(3), 4);
        due("remove told", x.told(0) * 10 + x.told(1), 42);
    }

    private static void get() {
        JoinMaps x = of(-500, 1, 500, 2);
        due("get", x.get(0, -500), 1);
        due("get", x.get(0, 500), 2);
        due("get none", x.get(0, 0), NONE);
        due("get none", x.get(1, 500), NONE);
        due("get wrong", x.get(6, 0), BAD);
        due("get wrong", x.get(-1, 0), BAD);
        due("get wrong", x.get(0, 501), BAD);
        due("get wrong", x.get(0, -501), BAD);
        due("get told", x.told(0), 4);
        due("get versions", x.told(3), 2);
    }

    private static void size() {
        JoinMaps x = of(1, 1, 2, 2);
        due("size", x.size(0), 2);
        due("size", x.size(5), 0);
        due("size wrong", x.size(6), BAD);
        due("size wrong", x.size(-1), BAD);
        due("size wrong", x.size(Integer.MAX_VALUE), BAD);
        due("size told", x.told(0), 3);
    }

    private static void rank() {
        JoinMaps x = of(-500, 0, 0, 0, 500, 0);
        int[][] cases = {{-501, 0}, {-500, 0}, {-499, 1}, {0, 1}, {1, 2}, {500, 2}, {501, 3}};
        for (int[] c : cases) {
            due("rank " + c[0], x.rank(0, c[0]), c[1]);
        }
        due("rank wrong", x.rank(0, 502), BAD);
        due("rank wrong", x.rank(0, -502), BAD);
        due("rank wrong", x.rank(6, 0), BAD);
        due("rank told", x.told(0), 3);
    }

    private static void nth() {
        JoinMaps x = of(7, 0, -3, 0, 100, 0);
        due("nth", x.nth(0, 0), -3);
        due("nth", x.nth(0, 1), 7);
        due("nth", x.nth(0, 2), 100);
        due("nth none", x.nth(0, 3), NONE);
        due("nth none", x.nth(0, Integer.MAX_VALUE), NONE);
        due("nth none", x.nth(1, 0), NONE);
        due("nth wrong", x.nth(0, -1), BAD);
        due("nth wrong", x.nth(0, Integer.MIN_VALUE), BAD);
        due("nth wrong", x.nth(6, 0), BAD);
        due("nth told", x.told(0), 3);
    }

    private static void near() {
        JoinMaps x = of(-10, 0, 10, 0);
        int[][] cases = {{-11, -1, NONE}, {-10, -1, -10}, {9, -1, -10}, {10, -1, 10}, {500, -1, 10},
                {-500, 1, -10}, {-10, 1, -10}, {-9, 1, 10}, {10, 1, 10}, {11, 1, NONE}, {500, 1, NONE}};
        for (int[] c : cases) {
            due("near " + c[0] + " way " + c[1], x.near(0, c[0], c[1]), c[2]);
        }
        due("near none", x.near(1, 0, 1), NONE);
        due("near none", x.near(1, 0, -1), NONE);
        int[][] wrong = {{6, 0, 1}, {0, 501, 1}, {0, -501, -1}, {0, 0, 0}, {0, 0, 2}, {0, 0, -2}};
        for (int[] w : wrong) {
            due("near wrong", x.near(w[0], w[1], w[2]), BAD);
        }
        due("near told", x.told(0), wrong.length);
    }

    /** What is wrong for all calls over keys a .. b. */
    private static final int[][] WRONG_RANGES = {{6, 0, 0}, {-1, 0, 0}, {0, 1, 0}, {0, -501, 0}, {0, 0, 501},
            {0, -501, -501}, {0, 501, 501}, {0, 500, -500}};

    private static void within() {
        JoinMaps x = of(-500, 0, 1, 0, 2, 0, 500, 0);
        due("within", x.within(0, -500, 500), 4);
        due("within", x.within(0, 1, 2), 2);
        due("within", x.within(0, 2, 2), 1);
        due("within", x.within(0, 3, 499), 0);
        due("within", x.within(0, -499, 500), 3);
        due("within", x.within(1, -500, 500), 0);
        for (int[] w : WRONG_RANGES) {
            due("within wrong", x.within(w[0], w[1], w[2]), BAD);
        }
        due("within told", x.told(0), WRONG_RANGES.length);
    }

    private static void sum() {
        JoinMaps x = of(-500, 3, 1, 10, 2, -20, 500, 100);
        due("sum", x.sum(0, -500, 500), 93);
        due("sum", x.sum(0, 1, 2), -10);
        due("sum", x.sum(0, 2, 500), 80);
        due("sum", x.sum(0, 3, 499), 0);
        due("sum", x.sum(0, -500, -500), 3);
        for (int k = 0; k < 200; k++) {
            x.put(1, k, 1000000);
            x.put(2, k, -1000000);
        }
        due("sum of many", x.sum(1, -500, 500), 200000000L);
        due("sum of many", x.sum(2, 0, 198), -199000000L);
        for (int[] w : WRONG_RANGES) {
            due("sum wrong", x.sum(w[0], w[1], w[2]), BAD);
        }
        due("sum told", x.told(0), WRONG_RANGES.length);
    }

    private static void most() {
        JoinMaps x = of(1, -5, 2, -9, 3, -1, 10, 1000000, -10, -1000000);
        due("most", x.most(0, 1, 3, 0), -1);
        due("least", x.most(0, 1, 3, 1), -9);
        due("most", x.most(0, 1, 2, 0), -5);
        due("most", x.most(0, -500, 500, 0), 1000000);
        due("least", x.most(0, -500, 500, 1), -1000000);
        due("most none", x.most(0, 4, 9, 0), NONE);
        due("least none", x.most(0, 4, 9, 1), NONE);
        due("most none", x.most(1, -500, 500, 1), NONE);
        for (int[] w : WRONG_RANGES) {
            due("most wrong", x.most(w[0], w[1], w[2], 0), BAD);
        }
        due("most wrong", x.most(0, 0, 0, 2), BAD);
        due("most wrong", x.most(0, 0, 0, -1), BAD);
        due("most told", x.told(0), WRONG_RANGES.length + 2);
    }

    private static void middle() {
        JoinMaps x = of(1, 0, 2, 0, 4, 0, 8, 0);
        due("middle of 4", x.middle(0, -500, 500), 2);
        due("middle of 3", x.middle(0, 2, 8), 4);
        due("middle of 2", x.middle(0, 4, 8), 4);
        due("middle of 1", x.middle(0, 8, 8), 8);
        due("middle none", x.middle(0, 5, 7), NONE);
        due("middle none", x.middle(1, -500, 500), NONE);
        for (int[] w : WRONG_RANGES) {
            due("middle wrong", x.middle(w[0], w[1], w[2]), BAD);
        }
        due("middle told", x.told(0), WRONG_RANGES.length);
    }

    private static void gap() {
        JoinMaps x = of(5, 0);
        due("gap of 1", x.gap(0), NONE);
        due("gap of 0", x.gap(1), NONE);
        with(x, 0, 6, 0);
        due("gap", x.gap(0), 1);
        with(x, 0, -4, 0, 20, 0);
        due("gap", x.gap(0), 14);
        due("gap widest", with(of(-500, 0, 500, 0), 1).gap(0), 1000);
        due("gap wrong", x.gap(6), BAD);
        due("gap wrong", x.gap(-1), BAD);
        due("gap told", x.told(0), 2);
    }

    private static void top() {
        JoinMaps x = of(1, 5, 2, 9, 3, 5, 4, -1000000, -500, 5, 500, 1000000);
        int[] want = {500, 2, -500, 1, 3, 4, NONE};
        for (int j = 0; j < want.length; j++) {
            due("top " + j, x.top(0, j), want[j]);
        }
        due("top none", x.top(1, 0), NONE);
        due("top none", x.top(0, Integer.MAX_VALUE), NONE);
        due("top edges", of(500, -1000000).top(0, 0), 500);
        due("top edges", of(-500, -1000000, 500, -1000000).top(0, 1), 500);
        due("top wrong", x.top(0, -1), BAD);
        due("top wrong", x.top(6, 0), BAD);
        due("top told", x.told(0), 2);
    }

    private static void wrongPairs(String name, JoinMaps x, java.util.function.IntBinaryOperator call) {
        int before = x.told(0);
        int[][] wrong = {{6, 0}, {0, 6}, {-1, 0}, {0, -1}};
        for (int[] w : wrong) {
            due(name + " wrong", call.applyAsInt(w[0], w[1]), BAD);
        }
        due(name + " told", x.told(0), before + wrong.length);
    }

    private static void same() {
        JoinMaps x = of(1, 10, 2, 20);
        with(x, 1, 2, 20, 1, 10);
        with(x, 2, 1, 10, 2, 21);
        with(x, 3, 1, 10);
        due("same", x.same(0, 1), 1);
        due("same itself", x.same(0, 0), 1);
        due("same empty", x.same(4, 5), 1);
        due("same values", x.same(0, 2), 0);
        due("same keys", x.same(0, 3), 0);
        due("same keys", x.same(3, 0), 0);
        due("same empty one", x.same(0, 4), 0);
        wrongPairs("same", x, x::same);
    }

    private static void common() {
        JoinMaps x = of(1, 10, 2, 20, 3, 30);
        with(x, 1, 2, 5, 3, 30, 4, 40);
        due("common", x.common(0, 1), 2);
        due("common", x.common(1, 0), 2);
        due("common itself", x.common(0, 0), 3);
        due("common empty", x.common(0, 2), 0);
        wrongPairs("common", x, x::common);
    }

    private static void apart() {
        JoinMaps x = of(1, 10, 5, 50, 9, 90);
        with(x, 1, 1, 10, 5, 51, 9, 90);
        with(x, 2, 1, 10, 3, 30, 5, 50, 9, 90);
        with(x, 3, 1, 10, 5, 50);
        due("apart value", x.apart(0, 1), 5);
        due("apart key", x.apart(0, 2), 3);
        due("apart key", x.apart(2, 0), 3);
        due("apart end", x.apart(0, 3), 9);
        due("apart end", x.apart(3, 0), 9);
        due("apart empty", x.apart(0, 4), 1);
        due("apart none", x.apart(0, 0), NONE);
        due("apart none", x.apart(4, 5), NONE);
        wrongPairs("apart", x, x::apart);
    }

    private static void cut() {
        JoinMaps x = of(1, 10, 2, 20, 3, 30);
        with(x, 1, 100, 100);
        due("cut", x.cut(0, 2, 1), 2);
        map("cut", x, 0, "{1:10}");
        map("cut", x, 1, "{2:20,3:30}");
        due("cut nothing", x.cut(1, 500, 2), 0);
        map("cut nothing", x, 1, "{2:20,3:30}");
        due("cut all", x.cut(1, -500, 2), 2);
        map("cut all", x, 1, "{}");
        map("cut all", x, 2, "{2:20,3:30}");
        int[][] wrong = {{6, 0, 0}, {0, 0, 6}, {0, 0, 0}, {3, 0, 3}, {0, 501, 1}, {0, -501, 1}, {-1, 0, 0}, {0, 0, -1}};
        for (int[] w : wrong) {
            due("cut wrong", x.cut(w[0], w[1], w[2]), BAD);
        }
        due("cut told", x.told(0), wrong.length);
        due("cut versions", x.told(3), 7);
    }

    private static void glue() {
        JoinMaps x = of(1, 10, 2, 20);
        with(x, 1, 3, 30, 4, 40);
        with(x, 2, 2, 0);
        due("glue wrong order", x.glue(1, 0), NO);
        due("glue like keys", x.glue(0, 2), NO);
        due("glue", x.glue(0, 1), 4);
        map("glue", x, 0, "{1:10,2:20,3:30,4:40}");
        map("glue", x, 1, "{}");
        due("glue an empty one behind", x.glue(0, 1), 4);
        due("glue behind an empty one", x.glue(1, 0), 4);
        map("glue behind an empty one", x, 1, "{1:10,2:20,3:30,4:40}");
        map("glue behind an empty one", x, 0, "{}");
        due("glue alike", x.glue(1, 1), BAD);
        due("glue alike, empty", x.glue(5, 5), BAD);
        wrongPairs("glue", x, x::glue);
        x.fill(3, -500, 150, 1);
        x.fill(4, 0, 51, 1);
        due("glue of 201", x.glue(3, 4), FULL);
        due("glue of 201, wrong order", x.glue(4, 3), NO);
        x.remove(4, 20);
        due("glue of 200", x.glue(3, 4), 200);
        due("glue: sound", x.sound(3), 1);
        due("glue: told", x.told(1) * 10 + x.told(2), 31);
    }

    private static void share() {
        JoinMaps x = of(1, 10, 2, 20);
        with(x, 3, 9, 9);
        due("share", x.share(0, 3), 2);
        map("share", x, 3, "{1:10,2:20}");
        x.put(3, 1, 11);
        x.remove(0, 2);
        map("share, then change", x, 0, "{1:10}");
        map("share, then change", x, 3, "{1:11,2:20}");
        due("share with itself", x.share(0, 0), 1);
        due("share an empty one", x.share(5, 3), 0);
        map("share an empty one", x, 3, "{}");
        due("share versions", x.told(3), 8);
        wrongPairs("share", x, x::share);
    }

    private static final String[] MIXED_UNION = {
            "{1:10,2:20,3:30,4:-4}", "{1:10,2:-7,3:31,4:-4}", "{1:10,2:13,3:61,4:-4}",
            "{1:10,2:20,3:31,4:-4}", "{1:10,2:-7,3:30,4:-4}", "{1:10,2:27,3:-1,4:-4}"};
    private static final String[] MIXED_MEET = {
            "{2:20,3:30}", "{2:-7,3:31}", "{2:13,3:61}", "{2:20,3:31}", "{2:-7,3:30}", "{2:27,3:-1}"};

    private static void mixUnionAndMeet() {
        JoinMaps x = of(1, 10, 2, 20, 3, 30);
        with(x, 1, 2, -7, 3, 31, 4, -4);
        for (int kind = 0; kind < 6; kind++) {
            x.mixer(kind);
            due("mix union " + kind, x.mix(0, 0, 1, 2), 4);
            map("mix union " + kind, x, 2, MIXED_UNION[kind]);
            due("mix meet " + kind, x.mix(1, 0, 1, 2), 2);
            map("mix meet " + kind, x, 2, MIXED_MEET[kind]);
        }
        mixHeld();
        int[][] wrong = {{4, 0, 0, 0}, {-1, 0, 0, 0}, {0, 6, 0, 0}, {0, 0, 6, 0}, {0, 0, 0, 6}, {0, -1, 0, 0}};
        for (int[] w : wrong) {
            due("mix wrong", x.mix(w[0], w[1], w[2], w[3]), BAD);
        }
        due("mix told", x.told(0), wrong.length);
    }

    private static void mixHeld() {
        JoinMaps x = of(1, 1000000, 2, -1000000, 3, 1000000, 4, 600000);
        with(x, 1, 1, 1000000, 2, -1000000, 3, -1000000, 4, 600000);
        x.mixer(2);
        x.mix(0, 0, 1, 2);
        map("mix sum held", x, 2, "{1:1000000,2:-1000000,3:0,4:1000000}");
        x.mixer(5);
        x.mix(1, 0, 1, 2);
        map("mix apart held twice", x, 2, "{1:-1000000,2:1000000,3:1000000,4:-200000}");
    }

    private static void mixLessAndEither() {
        JoinMaps x = of(1, 10, 2, 20, 3, 30);
        with(x, 1, 2, -7, 3, 31, 4, -4);
        x.mixer(2);
        due("mix less", x.mix(2, 0, 1, 2), 1);
        map("mix less", x, 2, "{1:10}");
        due("mix less", x.mix(2, 1, 0, 2), 1);
        map("mix less", x, 2, "{4:-4}");
        due("mix either", x.mix(3, 0, 1, 2), 2);
        map("mix either", x, 2, "{1:10,4:-4}");
        due("mix less of itself", x.mix(2, 0, 0, 3), 0);
        due("mix either of itself", x.mix(3, 0, 0, 3), 0);
        due("mix union of itself", x.mix(0, 0, 0, 0), 3);
        map("mix union of itself, in place", x, 0, "{1:20,2:40,3:60}");
        due("mix with an empty one", x.mix(0, 5, 1, 4), 3);
        due("mix with an empty one", x.mix(1, 1, 5, 4), 0);
        due("mix with an empty one", x.mix(2, 1, 5, 4), 3);
        due("mix with an empty one", x.mix(3, 5, 1, 4), 3);
        map("mix with an empty one", x, 4, "{2:-7,3:31,4:-4}");
    }

    private static void mixFull() {
        JoinMaps x = new JoinMaps();
        x.fill(0, -500, 200, 1);
        x.fill(1, -301, 2, 1);
        due("mix union of 201", x.mix(0, 0, 1, 2), FULL);
        due("mix either of 200", x.mix(3, 0, 1, 2), 200);
        x.fill(1, -300, 1, 1);
        due("mix either of 201", x.mix(3, 0, 1, 2), FULL);
        due("mix less", x.mix(2, 0, 1, 2), 200);
        x.fill(1, -301, 1, 1);
        due("mix union of 200", x.mix(0, 0, 1, 2), 200);
        due("mix full told", x.told(2), 2);
        due("mix versions", x.told(3), 7);
    }

    private static void fill() {
        JoinMaps x = of(77, 77);
        due("fill", x.fill(0, -3, 4, 2), 4);
        map("fill", x, 0, "{-3:9,-1:3,1:-3,3:-9}");
        due("fill", x.fill(0, 450, 2, 50), 2);
        map("fill", x, 0, "{450:202500,500:225000}");
        due("fill beyond", x.fill(0, 451, 2, 50), NO);
        due("fill beyond", x.fill(0, -500, 200, 50), NO);
        due("fill nothing", x.fill(0, 500, 0, 50), 0);
        map("fill nothing", x, 0, "{}");
        due("fill edges", x.fill(0, -500, 200, 5), 200);
        due("fill edges", x.get(0, -500), 250000);
        due("fill: sound", x.sound(0), 1);
        int[][] wrong = {{6, 0, 1, 1}, {-1, 0, 1, 1}, {0, 501, 0, 1}, {0, -501, 1, 1}, {0, 0, -1, 1}, {0, 0, 201, 1},
                {0, 0, 1, 0}, {0, 0, 1, 51}, {0, 500, 201, 1}};
        for (int[] w : wrong) {
            due("fill wrong", x.fill(w[0], w[1], w[2], w[3]), BAD);
        }
        due("fill told", x.told(0) * 10 + x.told(1), wrong.length * 10 + 2);
        due("fill versions", x.told(3), 5);
    }

    private static void sieve() {
        JoinMaps x = of(-3, 5, -2, 6, 0, 7, 1, 5, 2, 6, 3, 7);
        String[] want = {"{-3:5,-2:6,0:7,1:5,2:6,3:7}", "{-2:6,0:7,2:6}", "{-2:6,0:7,2:6,3:7}", "{2:6,3:7}",
                "{-3:5,-2:6,0:7,1:5}"};
        int[] count = {6, 3, 4, 2, 4};
        for (int kind = 0; kind < 5; kind++) {
            due("sieve " + kind, x.sieve(0, kind, 5, 1), count[kind]);
            map("sieve " + kind, x, 1, want[kind]);
        }
        due("sieve in place", x.sieve(0, 2, 6, 0), 2);
        map("sieve in place", x, 0, "{0:7,3:7}");
        due("sieve edges", x.sieve(0, 2, 1000000, 2), 0);
        due("sieve edges", x.sieve(0, 2, -1000000, 2), 2);
        int[][] wrong = {{6, 0, 0, 0}, {0, 5, 0, 0}, {0, -1, 0, 0}, {0, 0, 1000001, 0}, {0, 0, -1000001, 0}, {0, 0, 0, 6}};
        for (int[] w : wrong) {
            due("sieve wrong", x.sieve(w[0], w[1], w[2], w[3]), BAD);
        }
        due("sieve told", x.told(0), wrong.length);
    }

    private static void raise() {
        JoinMaps x = of(1, 10, 2, 999999, 3, -999999, 4, 40);
        due("raise", x.raise(0, 2, 4, 1000), 3);
        map("raise", x, 0, "{1:10,2:1000000,3:-998999,4:1040}");
        due("raise", x.raise(0, 3, 3, -1000), 1);
        due("raise", x.raise(0, 3, 3, -1000), 1);
        map("raise", x, 0, "{1:10,2:1000000,3:-1000000,4:1040}");
        due("raise none", x.raise(0, 5, 500, 5), 0);
        due("raise by 0", x.raise(0, -500, 500, 0), 4);
        due("raise versions", x.told(3), 9);
        for (int[] w : WRONG_RANGES) {
            due("raise wrong", x.raise(w[0], w[1], w[2], 0), BAD);
        }
        due("raise wrong", x.raise(0, 0, 0, 1001), BAD);
        due("raise wrong", x.raise(0, 0, 0, -1001), BAD);
        due("raise told", x.told(0), WRONG_RANGES.length + 2);
    }

    private static void slide() {
        JoinMaps x = of(-1, 10, 0, 20, 4, 30);
        due("slide", x.slide(0, 496), 3);
        map("slide", x, 0, "{495:10,496:20,500:30}");
        due("slide beyond", x.slide(0, 1), NO);
        due("slide", x.slide(0, -995), 3);
        map("slide", x, 0, "{-500:10,-499:20,-495:30}");
        due("slide beyond", x.slide(0, -1), NO);
        due("slide by 0", x.slide(0, 0), 3);
        due("slide an empty one", x.slide(1, 1000), 0);
        due("slide an empty one", x.slide(1, -1000), 0);
        due("slide the widest", with(of(-500, 5), 1).slide(0, 1000), 1);
        due("slide versions", x.told(3), 8);
        int[][] wrong = {{6, 0}, {-1, 0}, {0, 1001}, {0, -1001}, {0, Integer.MAX_VALUE}, {0, Integer.MIN_VALUE}};
        for (int[] w : wrong) {
            due("slide wrong", x.slide(w[0], w[1]), BAD);
        }
        due("slide told", x.told(0) * 10 + x.told(1), wrong.length * 10 + 2);
    }

    private static void zip() {
        JoinMaps x = of(1, 10, 2, 20, 3, 30);
        with(x, 1, -7, 0, 70, 0);
        due("zip", x.zip(0, 1, 2), 2);
        map("zip", x, 2, "{1:-7,2:70}");
        due("zip the other way", x.zip(1, 0, 2), 2);
        map("zip the other way", x, 2, "{-7:1,70:2}");
        due("zip in place", x.zip(0, 0, 0), 3);
        map("zip in place", x, 0, "{1:1,2:2,3:3}");
        due("zip with an empty one", x.zip(0, 5, 0), 0);
        map("zip with an empty one", x, 0, "{}");
        int[][] wrong = {{6, 0, 0}, {0, 6, 0}, {0, 0, 6}, {-1, 0, 0}, {0, -1, 0}, {0, 0, -1}};
        for (int[] w : wrong) {
            due("zip wrong", x.zip(w[0], w[1], w[2]), BAD);
        }
        due("zip told", x.told(0), wrong.length);
        due("zip versions", x.told(3), 9);
    }

    private static void clears() {
        JoinMaps x = of(-500, 1, 1, 2, 2, 3, 3, 4, 500, 5);
        due("clears", x.clears(0, 1, 2), 2);
        map("clears", x, 0, "{-500:1,3:4,500:5}");
        due("clears none", x.clears(0, 4, 499), 0);
        due("clears edges", x.clears(0, 500, 500), 1);
        due("clears all", x.clears(0, -500, 500), 2);
        map("clears all", x, 0, "{}");
        due("clears versions", x.told(3), 9);
        for (int[] w : WRONG_RANGES) {
            due("clears wrong", x.clears(w[0], w[1], w[2]), BAD);
        }
        due("clears told", x.told(0), WRONG_RANGES.length);
    }

    private static void scatter() {
        JoinMaps x = new JoinMaps();
        due("scatter nothing", x.scatter(0, 0, 0), 0);
        // X is 1103527590 for seed 1: 16838 by 1001 leaves 822 over, less 500; 269415 by 1000 leaves 415 over.
        due("scatter one", x.scatter(0, 1, 1), 1);
        map("scatter one", x, 0, "{322:415}");
        // X is 12345 for seed 0: 12 by 4 leaves 0 over, so key -500 is taken away.
        due("scatter away, not there", x.scatter(0, 0, 1), 1);
        x.put(0, -500, 8);
        due("scatter away", x.scatter(0, 0, 1), 1);
        map("scatter away", x, 0, "{322:415}");
        due("scatter versions", x.told(3), 5);
        x.fill(1, -500, 200, 1);
        long before = x.digest();
        due("scatter full", x.scatter(1, 1, 1), FULL);
        due("scatter full: versions", x.told(3), 6);
        due("scatter full: told", x.told(2), 1);
        due("scatter full: size", x.size(1), 200);
        due("scatter full: nothing else", x.digest() == before ? 1 : 0, 0);
        int[][] wrong = {{6, 0, 0}, {-1, 0, 0}, {0, -1, 0}, {0, 1000000, 0}, {0, 0, -1}, {0, 0, 101}};
        for (int[] w : wrong) {
            due("scatter wrong", x.scatter(w[0], w[1], w[2]), BAD);
        }
        due("scatter told", x.told(0), wrong.length);
        due("scatter edges", x.scatter(2, 999999, 100) > 0 ? 1 : 0, 1);
    }

    /** Draw by draw, with the document's arithmetic written out once more, in numbers without a bound. */
    private static void scatterDraws() {
        JoinMaps x = new JoinMaps();
        java.util.TreeMap<Integer, Integer> want = new java.util.TreeMap<>();
        java.math.BigInteger draw = java.math.BigInteger.valueOf(4711);
        for (int i = 0; i < 100; i++) {
            draw = draw.multiply(java.math.BigInteger.valueOf(1103515245)).add(java.math.BigInteger.valueOf(12345))
                    .mod(java.math.BigInteger.valueOf(2147483648L));
            long n = draw.longValueExact();
            int k = (int) (n / 65536 % 1001) - 500;
            if (n / 1024 % 4 == 0) {
                want.remove(k);
            } else {
                want.put(k, (int) (n / 4096 % 1000));
            }
        }
        due("scatter 100", x.scatter(3, 4711, 100), want.size());
        map("scatter 100", x, 3, want.toString().replace("=", ":").replace(" ", ""));
    }

    private static void sound() {
        JoinMaps x = new JoinMaps();
        due("sound empty", x.sound(0), 1);
        for (int k = -100; k < 100; k++) {
            x.put(0, k, k);
            x.put(1, -k, k);
            x.put(2, k % 2 == 0 ? k : -k, k);
            due("sound rising", x.sound(0), 1);
            due("sound falling", x.sound(1), 1);
            due("sound from both sides", x.sound(2), 1);
        }
        for (int k = -100; k < 90; k++) {
            x.remove(0, k);
            due("sound, taken away", x.sound(0), 1);
        }
        due("sound wrong", x.sound(6), BAD);
        due("sound wrong", x.sound(-1), BAD);
        due("sound told", x.told(0), 2);
    }

    private static void mixer() {
        JoinMaps x = new JoinMaps();
        due("mixer", x.mixer(5), 0);
        due("mixer", x.mixer(5), 5);
        due("mixer wrong", x.mixer(6), BAD);
        due("mixer wrong", x.mixer(-1), BAD);
        due("mixer", x.mixer(0), 5);
        due("mixer told", x.told(0), 2);
        due("mixer versions", x.told(3), 0);
    }

    private static void type() {
        JoinMaps x = new JoinMaps();
        due("type", x.type(0), 1);
        due("type", x.type(127), 2);
        due("type wrong", x.type(128), BAD);
        due("type wrong", x.type(-1), BAD);
        for (int i = 3; i <= 120; i++) {
            due("type", x.type('a'), i);
        }
        due("type full", x.type('a'), FULL);
        due("type full and wrong", x.type(128), BAD);
        due("type told", x.told(0) * 10 + x.told(2), 31);
        due("type bytes", x.told(4), 120);
        due("type versions", x.told(3), 0);
    }

    private static void clear() {
        JoinMaps x = new JoinMaps();
        due("clear", x.clear(), 0);
        Check.write(x, "a=b;");
        due("clear", x.clear(), 4);
        due("clear bytes", x.told(4), 0);
        due("clear, then sums", x.sums(), -10);
        due("clear, then type", x.type('a'), 1);
    }

    private static void sums() {
        JoinMaps x = of(1, 10, 2, 20);
        with(x, 1, 2, 200, 3, 300);
        Check.write(x, "c=a+b;d=c&b;c={};");
        due("sums", x.sums(), 3);
        due("sums: the text stays", x.told(4), 17);
        due("sums: one version", x.told(3), 5);
        map("sums", x, 2, "{}");
        map("sums", x, 3, "{2:20,3:300}");
        due("sums back", x.back(), 4);
        map("sums back", x, 3, "{}");
        due("sums again", x.sums(), 3);
        Check.write(x, "c=a+b;d=c&b;c={}");
        due("sums fault", x.sums(), -26);
        due("sums fault: not refused", x.told(0) + x.told(1) + x.told(2), 0);
        due("sums fault: no version", x.told(3), 5);
    }

    private static void back() {
        JoinMaps x = new JoinMaps();
        due("back at first", x.back(), NO);
        for (int i = 1; i <= 14; i++) {
            x.put(0, i, i);
            due("back: versions", x.told(3), Math.min(i, 12));
        }
        for (int i = 11; i >= 0; i--) {
            due("back", x.back(), i);
            due("back: size", x.size(0), i + 2);
        }
        due("back at the end", x.back(), NO);
        due("back at the end: size", x.size(0), 2);
        due("back told", x.told(1), 2);
        x.put(1, 1, 1);
        x.mixer(3);
        Check.write(x, "a=");
        due("back", x.back(), 0);
        due("back leaves the mixer", x.told(5), 3);
        due("back leaves the text", x.told(4), 2);
        map("back", x, 1, "{}");
    }

    /** Each call told V leaves a version behind, also one that puts in place what was there. */
    private static void versionsOfEachCall() {
        JoinMaps x = of(1, 1);
        Check.write(x, "a=a;");
        long before = x.digest();
        Runnable[] calls = {() -> x.put(0, 1, 1), () -> x.cut(0, 2, 1), () -> x.glue(0, 1), () -> x.share(0, 0),
                () -> x.mix(0, 0, 0, 0), () -> x.fill(0, 1, 1, 1), () -> x.sieve(0, 0, 0, 0),
                () -> x.raise(0, 1, 1, 0), () -> x.slide(0, 0), () -> x.zip(0, 0, 0), () -> x.clears(0, 2, 2),
                () -> x.scatter(0, 0, 0), () -> x.sums()};
        for (int i = 0; i < calls.length; i++) {
            calls[i].run();
            due("version of call " + i, x.told(3), 2);
            due("version of call " + i, x.back(), 1);
            due("version of call " + i, x.digest(), before);
        }
        Runnable[] others = {() -> x.get(0, 1), () -> x.same(0, 1), () -> x.top(0, 0), () -> x.sound(0),
                () -> x.type('a'), () -> x.clear(), () -> x.mixer(0), () -> x.digest(), () -> x.told(0)};
        for (Runnable call : others) {
            call.run();
            due("no version of other calls", x.told(3), 1);
        }
    }

    private static void told() {
        JoinMaps x = new JoinMaps();
        x.put(6, 0, 0);
        x.put(7, 0, 0);
        x.put(8, 0, 0);
        x.remove(0, 0);
        x.back();
        x.fill(0, 0, 200, 1);
        x.put(0, -1, 0);
        x.put(1, 1, 1);
        x.type('a');
        x.type('b');
        x.mixer(4);
        int[] want = {3, 2, 1, 2, 2, 4, 201};
        for (int what = 0; what < 7; what++) {
            due("told " + what, x.told(what), want[what]);
        }
        due("told wrong", x.told(7), BAD);
        due("told wrong", x.told(-1), BAD);
        due("told 0", x.told(0), 5);
    }

    private static void digest() {
        JoinMaps x = of(-2, 7, 3, -8);
        with(x, 5, 1, 1);
        x.put(6, 0, 0);
        x.remove(0, 0);
        x.type(' ');
        x.mixer(2);
        long[] vs = {1, 1, 0, 3, 1, 2, 3, 2, -2, 7, 3, -8, 0, 0, 0, 0, 1, 1, 1};
        long h = 1889;
        for (long v : vs) {
            h = 31 * h + v;
        }
        due("digest", x.digest(), h);
        due("digest again", x.digest(), h);
    }

    private static void refusedLeaveNothing() {
        JoinMaps x = new JoinMaps();
        x.fill(0, -500, 200, 1);
        x.fill(1, 0, 200, 1);
        Check.write(x, "c={1};d=a+b;");
        Runnable[] calls = {() -> x.put(0, 0, 0), () -> x.mix(0, 0, 1, 2), () -> x.glue(0, 1), () -> x.sums(),
                () -> x.scatter(0, 1, 50)};
        String[] maps = new String[6];
        for (int m = 0; m < 6; m++) {
            maps[m] = Check.show(x, m);
        }
        for (int i = 0; i < calls.length; i++) {
            calls[i].run();
            due("refused " + i + ": told", x.told(2), i + 1);
            due("refused " + i + ": versions", x.told(3), 2);
            for (int m = 0; m < 6; m++) {
                map("refused " + i, x, m, maps[m]);
            }
        }
    }
}

/**
 * Six ordered maps, held as trees balanced by weight. Whatever makes a tree goes through one join, and no
 * part of a tree is changed while a map or a version holds it: so maps share parts, and a version is no
 * more than the roots of its maps.
 */
public final class JoinMaps {
    public static final int NONE = -2000000001, BAD = -2000000002, NO = -2000000003, FULL = -2000000004;

    private static final int MAPS = 6;
    private static final int ENTRY_LIMIT = 200;
    private static final int KEY_LIMIT = 500;
    private static final int VALUE_LIMIT = 1000000;
    private static final int VERSION_LIMIT = 12;
    private static final int TEXT_LIMIT = 120;
    private static final int CHANGE_LIMIT = 1000;
    private static final int STEP_LIMIT = 50;
    private static final int SEED_LIMIT = 999999;
    private static final int DRAW_LIMIT = 100;
    private static final int MIXER_KINDS = 6;
    private static final int SIEVE_KINDS = 5;

    /** A tree of 400 entries, twice a map's most, is at most 19 levels deep: nothing comes near this. */
    private static final int DEEPEST = 40;

    private static final int UNION = 0, MEET = 1, LESS = 2, EITHER = 3;

    private final Grove grove = new Grove();
    private final Blender blender = new Blender(grove);
    private final Node[] maps = new Node[MAPS];
    private final Versions versions = new Versions();
    private final byte[] text = new byte[TEXT_LIMIT];
    private final Plan plan = new Plan();
    private final Reader reader = new Reader(text, plan);
    private final Bench bench = new Bench(grove);
    private final Row first = new Row();
    private final Row second = new Row();
    private int typed;
    private int bads;
    private int noes;
    private int fulls;

    public JoinMaps() {
    }

    // ---- entries

    public int put(int m, int k, int v) {
        if (!isMap(m) || !isKey(k) || !isValue(v)) {
            return bad();
        }
        Node there = Node.find(maps[m], k);
        if (there == null && Node.countOf(maps[m]) >= ENTRY_LIMIT) {
            return full();
        }
        int ahead = there == null ? NONE : there.value;
        startChange();
        settle(m, grove.with(maps[m], k, v));
        return ahead;
    }

    public int remove(int m, int k) {
        if (!isMap(m) || !isKey(k)) {
            return bad();
        }
        Node there = Node.find(maps[m], k);
        if (there == null) {
            return no();
        }
        int ahead = there.value;
        startChange();
        settle(m, grove.without(maps[m], k, k));
        return ahead;
    }

    public int get(int m, int k) {
        if (!isMap(m) || !isKey(k)) {
            return bad();
        }
        Node there = Node.find(maps[m], k);
        return there == null ? NONE : there.value;
    }

    public int size(int m) {
        return isMap(m) ? Node.countOf(maps[m]) : bad();
    }

    public int rank(int m, int k) {
        if (!isMap(m) || !isIn(k, -KEY_LIMIT - 1, KEY_LIMIT + 1)) {
            return bad();
        }
        return Node.countBelow(maps[m], k);
    }

    public int nth(int m, int i) {
        if (!isMap(m) || i < 0) {
            return bad();
        }
        return Node.keyAt(maps[m], i);
    }

    public int near(int m, int k, int way) {
        if (!isMap(m) || !isKey(k) || (way != -1 && way != 1)) {
            return bad();
        }
        int place = way == 1 ? Node.countBelow(maps[m], k) : Node.countBelow(maps[m], k + 1) - 1;
        return Node.keyAt(maps[m], place);
    }

    public int within(int m, int a, int b) {
        return isMap(m) && isRange(a, b) ? Node.countWithin(maps[m], a, b) : bad();
    }

    public long sum(int m, int a, int b) {
        if (!isMap(m) || !isRange(a, b)) {
            return bad();
        }
        return Node.sumBelow(maps[m], b + 1) - Node.sumBelow(maps[m], a);
    }

    public int most(int m, int a, int b, int what) {
        if (!isMap(m) || !isRange(a, b) || !isIn(what, 0, 1)) {
            return bad();
        }
        int end = Node.countBelow(maps[m], b + 1);
        int best = NONE;
        first.take(maps[m]);
        for (int i = Node.countBelow(maps[m], a); i < end; i++) {
            int v = first.valueAt(i);
            if (best == NONE || (what == 0 ? v > best : v < best)) {
                best = v;
            }
        }
        return best;
    }

    public int middle(int m, int a, int b) {
        if (!isMap(m) || !isRange(a, b)) {
            return bad();
        }
        int n = Node.countWithin(maps[m], a, b);
        return n == 0 ? NONE : Node.keyAt(maps[m], Node.countBelow(maps[m], a) + (n - 1) / 2);
    }

    public int gap(int m) {
        if (!isMap(m)) {
            return bad();
        }
        int widest = NONE;
        first.take(maps[m]);
        for (int i = 1; i < first.length; i++) {
            widest = Math.max(widest, first.keyAt(i) - first.keyAt(i - 1));
        }
        return widest;
    }

    public int top(int m, int j) {
        if (!isMap(m) || j < 0) {
            return bad();
        }
        if (j >= Node.countOf(maps[m])) {
            return NONE;
        }
        first.take(maps[m]);
        return first.keyOfGreatest(j);
    }

    // ---- two maps

    public int same(int a, int b) {
        if (!isMap(a) || !isMap(b)) {
            return bad();
        }
        return firstUnlikeKey(a, b) == NONE ? 1 : 0;
    }

    public int common(int a, int b) {
        if (!isMap(a) || !isMap(b)) {
            return bad();
        }
        int n = 0;
        first.take(maps[a]);
        for (int i = 0; i < first.length; i++) {
            if (Node.find(maps[b], first.keyAt(i)) != null) {
                n++;
            }
        }
        return n;
    }

    public int apart(int a, int b) {
        return isMap(a) && isMap(b) ? firstUnlikeKey(a, b) : bad();
    }

    // ---- whole maps

    public int cut(int m, int k, int to) {
        if (!isMap(m) || !isKey(k) || !isMap(to) || m == to) {
            return bad();
        }
        startChange();
        versions.leave(maps);
        Node whole = maps[m];
        maps[m] = grove.below(whole, k, 0);
        maps[to] = grove.above(whole, k - 1, 0);
        return Node.countOf(maps[to]);
    }

    public int glue(int a, int b) {
        if (!isMap(a) || !isMap(b) || a == b) {
            return bad();
        }
        int left = Node.countOf(maps[a]);
        int right = Node.countOf(maps[b]);
        if (left > 0 && right > 0 && Node.keyAt(maps[a], left - 1) >= Node.keyAt(maps[b], 0)) {
            return no();
        }
        if (left + right > ENTRY_LIMIT) {
            return full();
        }
        startChange();
        settle(a, grove.chain(maps[a], maps[b]));
        maps[b] = null;
        return left + right;
    }

    public int share(int m, int to) {
        if (!isMap(m) || !isMap(to)) {
            return bad();
        }
        return settle(to, maps[m]);
    }

    public int mix(int sort, int a, int b, int to) {
        if (!isIn(sort, UNION, EITHER) || !isMap(a) || !isMap(b) || !isMap(to)) {
            return bad();
        }
        startChange();
        Node blend = blender.blend(sort, maps[a], maps[b], 0);
        return Node.countOf(blend) > ENTRY_LIMIT ? full() : settle(to, blend);
    }

    public int fill(int m, int from, int n, int step) {
        if (!isMap(m) || !isKey(from) || !isIn(n, 0, ENTRY_LIMIT) || !isIn(step, 1, STEP_LIMIT)) {
            return bad();
        }
        if (n > 0 && from + (n - 1) * step > KEY_LIMIT) {
            return no();
        }
        first.empty();
        for (int i = 0; i < n; i++) {
            int k = from + i * step;
            first.add(k, held(k * from));
        }
        return settleRow(m, first);
    }

    public int sieve(int m, int kind, int x, int to) {
        if (!isMap(m) || !isIn(kind, 0, SIEVE_KINDS - 1) || !isValue(x) || !isMap(to)) {
            return bad();
        }
        first.take(maps[m]);
        second.empty();
        for (int i = 0; i < first.length; i++) {
            int k = first.keyAt(i);
            int v = first.valueAt(i);
            if (passes(kind, x, k, v)) {
                second.add(k, v);
            }
        }
        return settleRow(to, second);
    }

    public int raise(int m, int a, int b, int d) {
        if (!isMap(m) || !isRange(a, b) || !isIn(d, -CHANGE_LIMIT, CHANGE_LIMIT)) {
            return bad();
        }
        first.take(maps[m]);
        second.empty();
        for (int i = 0; i < first.length; i++) {
            int k = first.keyAt(i);
            int v = first.valueAt(i);
            second.add(k, isIn(k, a, b) ? held(v + d) : v);
        }
        settleRow(m, second);
        return Node.countWithin(maps[m], a, b);
    }

    public int slide(int m, int d) {
        if (!isMap(m) || !isIn(d, -CHANGE_LIMIT, CHANGE_LIMIT)) {
            return bad();
        }
        int n = Node.countOf(maps[m]);
        if (n > 0 && !(isKey(Node.keyAt(maps[m], 0) + d) && isKey(Node.keyAt(maps[m], n - 1) + d))) {
            return no();
        }
        first.take(maps[m]);
        second.empty();
        for (int i = 0; i < first.length; i++) {
            second.add(first.keyAt(i) + d, first.valueAt(i));
        }
        return settleRow(m, second);
    }

    public int zip(int a, int b, int to) {
        if (!isMap(a) || !isMap(b) || !isMap(to)) {
            return bad();
        }
        int n = Math.min(Node.countOf(maps[a]), Node.countOf(maps[b]));
        second.empty();
        for (int i = 0; i < n; i++) {
            second.add(Node.keyAt(maps[a], i), Node.keyAt(maps[b], i));
        }
        return settleRow(to, second);
    }

    public int clears(int m, int a, int b) {
        if (!isMap(m) || !isRange(a, b)) {
            return bad();
        }
        int n = Node.countWithin(maps[m], a, b);
        startChange();
        settle(m, grove.without(maps[m], a, b));
        return n;
    }

    public int scatter(int m, int seed, int n) {
        if (!isMap(m) || !isIn(seed, 0, SEED_LIMIT) || !isIn(n, 0, DRAW_LIMIT)) {
            return bad();
        }
        startChange();
        Node tree = maps[m];
        long x = seed;
        for (int i = 0; i < n; i++) {
            x = (x * 1103515245L + 12345L) % 2147483648L;
            int k = (int) (x / 65536L % 1001L) - KEY_LIMIT;
            tree = x / 1024L % 4L == 0L ? grove.without(tree, k, k) : grove.with(tree, k, (int) (x / 4096L % 1000L));
            if (Node.countOf(tree) > ENTRY_LIMIT) {
                return full();
            }
        }
        return settle(m, tree);
    }

    public int sound(int m) {
        if (!isMap(m)) {
            return bad();
        }
        return Grove.isWell(maps[m], -KEY_LIMIT - 1, KEY_LIMIT + 1, 0) ? 1 : 0;
    }

    // ---- sums

    public int mixer(int kind) {
        if (!isIn(kind, 0, MIXER_KINDS - 1)) {
            return bad();
        }
        int was = blender.mixerKind;
        blender.mixerKind = kind;
        return was;
    }

    public int type(int c) {
        if (!isIn(c, 0, 127)) {
            return bad();
        }
        if (typed >= TEXT_LIMIT) {
            return full();
        }
        text[typed] = (byte) c;
        typed++;
        return typed;
    }

    public int clear() {
        int had = typed;
        typed = 0;
        return had;
    }

    public int sums() {
        int fault = reader.read(typed);
        if (fault != Reader.NO_FAULT) {
            return -10 - fault;
        }
        bench.lay(maps);
        for (int i = 0; i < plan.length; i++) {
            startChange();
            int deed = plan.deedAt(i);
            if (deed > EITHER) {
                bench.act(deed, plan.numberAt(i));
                continue;
            }
            Node right = bench.pop();
            Node blend = blender.blend(deed, bench.pop(), right, 0);
            if (Node.countOf(blend) > ENTRY_LIMIT) {
                return full();
            }
            bench.push(blend);
        }
        versions.leave(maps);
        bench.bring(maps);
        return reader.sumCount;
    }

    // ---- versions

    public int back() {
        if (versions.count == 0) {
            return no();
        }
        versions.bringLast(maps);
        return versions.count;
    }

    public int told(int what) {
        switch (what) {
            case 0:
                return bads;
            case 1:
                return noes;
            case 2:
                return fulls;
            case 3:
                return versions.count;
            case 4:
                return typed;
            case 5:
                return blender.mixerKind;
            case 6:
                return entriesOfAll();
            default:
                return bad();
        }
    }

    public long digest() {
        long h = 1889;
        for (int what = 0; what <= 6; what++) {
            h = 31 * h + told(what);
        }
        for (int m = 0; m < MAPS; m++) {
            first.take(maps[m]);
            h = 31 * h + first.length;
            for (int i = 0; i < first.length; i++) {
                h = 31 * h + first.keyAt(i);
                h = 31 * h + first.valueAt(i);
            }
        }
        return h;
    }

    // ---- what the calls have in common

    private int bad() {
        bads++;
        return BAD;
    }

    private int no() {
        noes++;
        return NO;
    }

    private int full() {
        fulls++;
        return FULL;
    }

    private static boolean isIn(int n, int least, int greatest) {
        return n >= least && n <= greatest;
    }

    private static boolean isMap(int m) {
        return isIn(m, 0, MAPS - 1);
    }

    private static boolean isKey(int k) {
        return isIn(k, -KEY_LIMIT, KEY_LIMIT);
    }

    private static boolean isValue(int v) {
        return isIn(v, -VALUE_LIMIT, VALUE_LIMIT);
    }

    private static boolean isRange(int a, int b) {
        return isKey(a) && isKey(b) && a <= b;
    }

    private static int held(int n) {
        return Math.max(-VALUE_LIMIT, Math.min(VALUE_LIMIT, n));
    }

    private static boolean passes(int kind, int x, int k, int v) {
        boolean above = v > x;
        boolean steep = above && k > 0;
        switch (kind) {
            case 1:
                return k % 2 == 0;
            case 2:
                return above;
            case 3:
                return steep;
            case 4:
                return !steep;
            default:
                return true;
        }
    }

    private int entriesOfAll() {
        int n = 0;
        for (int m = 0; m < MAPS; m++) {
            n += Node.countOf(maps[m]);
        }
        return n;
    }

    /** Up to the first unlike entry both maps have the same keys, so one place serves for both. */
    private int firstUnlikeKey(int a, int b) {
        first.take(maps[a]);
        second.take(maps[b]);
        int shorter = Math.min(first.length, second.length);
        for (int i = 0; i < shorter; i++) {
            if (first.keyAt(i) != second.keyAt(i) || first.valueAt(i) != second.valueAt(i)) {
                return Math.min(first.keyAt(i), second.keyAt(i));
            }
        }
        return first.length > shorter ? first.keyAt(shorter) : second.keyAt(shorter);
    }

    /** Called only where no half-made tree is in use but on the bench, since all other nodes may be taken anew. */
    private void startChange() {
        if (grove.isCrowded()) {
            grove.startKeeping();
            grove.keepAll(maps);
            grove.keepAll(versions.roots);
            grove.keepAll(bench.maps);
            grove.keepAll(bench.stack);
            grove.spareTheRest();
        }
    }

    private int settle(int m, Node tree) {
        versions.leave(maps);
        maps[m] = tree;
        return Node.countOf(tree);
    }

    private int settleRow(int m, Row row) {
        startChange();
        return settle(m, grove.built(row, 0, row.length, 0));
    }

    /** An entry, with the parts of the tree below and above it. */
    private static final class Node {
        int key;
        int value;
        int count;
        long sum;
        Node left;
        Node right;
        /** The node that was made ahead of this one: the chain of all nodes there are. */
        Node older;
        /** The chain of the nodes that no tree holds. */
        Node nextSpare;
        int keptRound;

        static int countOf(Node t) {
            return t == null ? 0 : t.count;
        }

        static long sumOf(Node t) {
            return t == null ? 0L : t.sum;
        }

        static int weightOf(Node t) {
            return countOf(t) + 1;
        }

        static Node find(Node root, int k) {
            Node t = root;
            while (t != null && t.key != k) {
                t = k < t.key ? t.left : t.right;
            }
            return t;
        }

        static int countBelow(Node root, int k) {
            int n = 0;
            Node t = root;
            while (t != null) {
                if (t.key < k) {
                    n += countOf(t.left) + 1;
                    t = t.right;
                } else {
                    t = t.left;
                }
            }
            return n;
        }

        static int countWithin(Node root, int a, int b) {
            return countBelow(root, b + 1) - countBelow(root, a);
        }

        static long sumBelow(Node root, int k) {
            long n = 0;
            Node t = root;
            while (t != null) {
                if (t.key < k) {
                    n += sumOf(t.left) + t.value;
                    t = t.right;
                } else {
                    t = t.left;
                }
            }
            return n;
        }

        static int keyAt(Node root, int place) {
            int left = place;
            Node t = root;
            while (t != null) {
                int below = countOf(t.left);
                if (left == below) {
                    return t.key;
                }
                if (left < below) {
                    t = t.left;
                } else {
                    left -= below + 1;
                    t = t.right;
                }
            }
            return NONE;
        }
    }

    /** Makes trees, and the nodes for them: those that no tree holds any more are used again. */
    private static final class Grove {
        private static final int CROWD = 8192;
        private static final int BALANCE = 3;

        private Node newest;
        private Node spare;
        private int taken;
        private int round;

        private Node node(Node l, int k, int v, Node r) {
            Node t = spare;
            if (t == null) {
                t = new Node();
                t.older = newest;
                newest = t;
            } else {
                spare = t.nextSpare;
            }
            taken++;
            t.key = k;
            t.value = v;
            t.left = l;
            t.right = r;
            t.count = Node.countOf(l) + 1 + Node.countOf(r);
            t.sum = Node.sumOf(l) + v + Node.sumOf(r);
            return t;
        }

        boolean isCrowded() {
            return taken >= CROWD;
        }

        void startKeeping() {
            round++;
        }

        void keepAll(Node[] roots) {
            for (int i = 0; i < roots.length; i++) {
                keep(roots[i], 0);
            }
        }

        private void keep(Node t, int deep) {
            if (t == null || t.keptRound == round || deep > DEEPEST) {
                return;
            }
            t.keptRound = round;
            keep(t.left, deep + 1);
            keep(t.right, deep + 1);
        }

        void spareTheRest() {
            spare = null;
            taken = 0;
            for (Node t = newest; t != null; t = t.older) {
                if (t.keptRound != round) {
                    t.nextSpare = spare;
                    spare = t;
                }
            }
        }

        private static boolean isBalanced(int one, int other) {
            return one <= BALANCE * other && other <= BALANCE * one;
        }

        /** The join that all trees come from: all keys of l are below k, all of r above it. */
        Node join(Node l, int k, int v, Node r, int deep) {
            int left = Node.weightOf(l);
            int right = Node.weightOf(r);
            if (deep > DEEPEST || isBalanced(left, right)) {
                return node(l, k, v, r);
            }
            if (l != null && left > right) {
                return turnedLeft(l.left, l.key, l.value, join(l.right, k, v, r, deep + 1));
            }
            if (r != null && right > left) {
                return turnedRight(join(l, k, v, r.left, deep + 1), r.key, r.value, r.right);
            }
            return node(l, k, v, r);
        }

        private Node turnedLeft(Node l, int k, int v, Node r) {
            int left = Node.weightOf(l);
            if (r == null || isBalanced(left, Node.weightOf(r))) {
                return node(l, k, v, r);
            }
            Node inner = r.left;
            int mid = Node.weightOf(inner);
            if (inner == null || (isBalanced(left, mid) && isBalanced(left + mid, Node.weightOf(r.right)))) {
                return node(node(l, k, v, inner), r.key, r.value, r.right);
            }
            Node outer = node(inner.right, r.key, r.value, r.right);
            return node(node(l, k, v, inner.left), inner.key, inner.value, outer);
        }

        private Node turnedRight(Node l, int k, int v, Node r) {
            int right = Node.weightOf(r);
            if (l == null || isBalanced(right, Node.weightOf(l))) {
                return node(l, k, v, r);
            }
            Node inner = l.right;
            int mid = Node.weightOf(inner);
            if (inner == null || (isBalanced(right, mid) && isBalanced(right + mid, Node.weightOf(l.left)))) {
                return node(l.left, l.key, l.value, node(inner, k, v, r));
            }
            Node outer = node(l.left, l.key, l.value, inner.left);
            return node(outer, inner.key, inner.value, node(inner.right, k, v, r));
        }

        Node below(Node t, int k, int deep) {
            if (t == null || deep > DEEPEST) {
                return null;
            }
            if (t.key >= k) {
                return below(t.left, k, deep + 1);
            }
            Node rest = below(t.right, k, deep + 1);
            return rest == t.right ? t : join(t.left, t.key, t.value, rest, 0);
        }

        Node above(Node t, int k, int deep) {
            if (t == null || deep > DEEPEST) {
                return null;
            }
            if (t.key <= k) {
                return above(t.right, k, deep + 1);
            }
            Node rest = above(t.left, k, deep + 1);
            return rest == t.left ? t : join(rest, t.key, t.value, t.right, 0);
        }

        /** One tree of two, where all keys of l are below all of r. */
        Node chain(Node l, Node r) {
            if (l == null || r == null) {
                return l == null ? r : l;
            }
            Node least = r;
            while (least.left != null) {
                least = least.left;
            }
            return join(l, least.key, least.value, above(r, least.key, 0), 0);
        }

        Node with(Node t, int k, int v) {
            return join(below(t, k, 0), k, v, above(t, k, 0), 0);
        }

        Node without(Node t, int a, int b) {
            return chain(below(t, a, 0), above(t, b, 0));
        }

        Node built(Row row, int from, int to, int deep) {
            if (from >= to || deep > DEEPEST) {
                return null;
            }
            int mid = (from + to) / 2;
            Node l = built(row, from, mid, deep + 1);
            Node r = built(row, mid + 1, to, deep + 1);
            return join(l, row.keyAt(mid), row.valueAt(mid), r, 0);
        }

        /** Whether a tree of keys above least and below greatest is as the other methods want it. */
        static boolean isWell(Node t, int least, int greatest, int deep) {
            if (t == null) {
                return true;
            }
            boolean counted = t.count == Node.countOf(t.left) + 1 + Node.countOf(t.right);
            boolean summed = t.sum == Node.sumOf(t.left) + t.value + Node.sumOf(t.right);
            boolean ordered = t.key > least && t.key < greatest;
            boolean balanced = isBalanced(Node.weightOf(t.left), Node.weightOf(t.right));
            return deep <= DEEPEST && counted && summed && ordered && balanced
                    && isWell(t.left, least, t.key, deep + 1) && isWell(t.right, t.key, greatest, deep + 1);
        }
    }

    /** Makes one map of two, by the mixer. */
    private static final class Blender {
        private final Grove grove;
        int mixerKind;

        Blender(Grove grove) {
            this.grove = grove;
        }

        /** One walk serves for all four sorts: they differ only in which keys stay. */
        Node blend(int sort, Node a, Node b, int deep) {
            if (a == null || deep > DEEPEST) {
                return sort == UNION || sort == EITHER ? b : null;
            }
            if (b == null) {
                return sort == MEET ? null : a;
            }
            Node l = blend(sort, a.left, grove.below(b, a.key, 0), deep + 1);
            Node r = blend(sort, a.right, grove.above(b, a.key, 0), deep + 1);
            Node twin = Node.find(b, a.key);
            boolean stays = twin == null ? sort != MEET : sort == UNION || sort == MEET;
            if (!stays) {
                return grove.chain(l, r);
            }
            return grove.join(l, a.key, twin == null ? a.value : mixed(a.value, twin.value), r, 0);
        }

        private int mixed(int a, int b) {
            switch (mixerKind) {
                case 1:
                    return b;
                case 2:
                    return held(b + a);
                case 3:
                    return Math.max(a, b);
                case 4:
                    return a + b - Math.max(a, b);
                case 5:
                    return held(held(b + a) - 2 * b);
                default:
                    return a;
            }
        }
    }

    /** A map's entries one behind the other; made once and used again. */
    private static final class Row {
        private static final int HIGHEST_BIT = 30;
        private static final int KEYS = 2 * KEY_LIMIT + 1;

        private final int[] keys = new int[ENTRY_LIMIT];
        private final int[] values = new int[ENTRY_LIMIT];
        int length;

        void empty() {
            length = 0;
        }

        void add(int k, int v) {
            if (length < ENTRY_LIMIT) {
                keys[length] = k;
                values[length] = v;
                length++;
            }
        }

        void take(Node tree) {
            length = 0;
            walk(tree, 0);
        }

        private void walk(Node t, int deep) {
            if (t == null || deep > DEEPEST) {
                return;
            }
            walk(t.left, deep + 1);
            add(t.key, t.value);
            walk(t.right, deep + 1);
        }

        int keyAt(int i) {
            return isIn(i, 0, length - 1) ? keys[i] : NONE;
        }

        int valueAt(int i) {
            return isIn(i, 0, length - 1) ? values[i] : NONE;
        }

        /** Finds, bit by bit, the greatest number that has at most j standings below it: the j-th standing itself. */
        int keyOfGreatest(int j) {
            int found = 0;
            for (int bit = HIGHEST_BIT; bit >= 0; bit--) {
                int tried = found | (1 << bit);
                if (countStandingsBelow(tried) <= j) {
                    found = tried;
                }
            }
            return found % KEYS - KEY_LIMIT;
        }

        private int countStandingsBelow(int bound) {
            int n = 0;
            for (int i = 0; i < length; i++) {
                if (standing(i) < bound) {
                    n++;
                }
            }
            return n;
        }

        /** Value and key in one number: the lower, the further ahead; at most 2002001000, so it fits. */
        private int standing(int i) {
            return (VALUE_LIMIT - valueAt(i)) * KEYS + keyAt(i) + KEY_LIMIT;
        }
    }

    /** The roots of all maps as they were, a ring in which the newest takes the oldest one's place. */
    private static final class Versions {
        final Node[] roots = new Node[VERSION_LIMIT * MAPS];
        int count;
        private int next;

        void leave(Node[] maps) {
            for (int m = 0; m < MAPS; m++) {
                roots[next * MAPS + m] = maps[m];
            }
            next = (next + 1) % VERSION_LIMIT;
            count = Math.min(count + 1, VERSION_LIMIT);
        }

        void bringLast(Node[] maps) {
            next = (next + VERSION_LIMIT - 1) % VERSION_LIMIT;
            count = Math.max(count - 1, 0);
            for (int m = 0; m < MAPS; m++) {
                maps[m] = roots[next * MAPS + m];
                roots[next * MAPS + m] = null;
            }
        }
    }

    /** What the text asks for, in the order in which it is done: both sides stand ahead of the sign between them. */
    private static final class Plan {
        /** The deeds below these are the sorts of a blend, UNION to EITHER. */
        static final int TAKE_MAP = 4, TAKE_EMPTY = 5, ADD_KEY = 6, STORE = 7;

        private final int[] deeds = new int[TEXT_LIMIT];
        private final int[] numbers = new int[TEXT_LIMIT];
        int length;

        /** No byte of the text asks for more than one deed, so there is always room. */
        void add(int deed, int number) {
            if (length < TEXT_LIMIT) {
                deeds[length] = deed;
                numbers[length] = number;
                length++;
            }
        }

        int deedAt(int i) {
            return isIn(i, 0, length - 1) ? deeds[i] : TAKE_EMPTY;
        }

        int numberAt(int i) {
            return isIn(i, 0, length - 1) ? numbers[i] : 0;
        }
    }

    /** Reads the text from the left on, with the signs that wait for their right side on a stack: nothing recurs. */
    private static final class Reader {
        static final int NO_FAULT = -1;
        private static final int TARGET = 0, EQUALS = 1, ATOM = 2, SIGN = 3, FIRST_NUMBER = 4, NUMBER = 5, COMMA = 6;
        private static final int OPEN = -1;
        private static final int NUMBER_LIMIT = 8;
        private static final int FIGURE_LIMIT = 3;

        private final byte[] bytes;
        private final Plan plan;
        private final int[] waiting = new int[TEXT_LIMIT];
        private int waits;
        private int length;
        private int at;
        private int wanted;
        private int target;
        private int open;
        private int numbers;
        int sumCount;

        Reader(byte[] text, Plan plan) {
            this.bytes = text;
            this.plan = plan;
        }

        /** Writes the plan; the answer is the fault. */
        int read(int textLength) {
            length = Math.min(textLength, bytes.length);
            at = 0;
            wanted = TARGET;
            waits = 0;
            open = 0;
            sumCount = 0;
            plan.length = 0;
            for (int steps = 0; steps < TEXT_LIMIT && at < length; steps++) {
                int c = bytes[at];
                if (c == ' ') {
                    at++;
                } else if (!accepts(c)) {
                    return at;
                }
            }
            return wanted == TARGET && sumCount > 0 ? NO_FAULT : length;
        }

        /** Goes on behind what stands at this place, or answers false and stays if it can not stand there. */
        private boolean accepts(int c) {
            switch (wanted) {
                case TARGET:
                    return acceptsTarget(c);
                case EQUALS:
                    return c == '=' && goOn(ATOM);
                case ATOM:
                    return acceptsAtom(c);
                case SIGN:
                    return acceptsSign(c);
                case FIRST_NUMBER:
                    return c == '}' ? goOn(SIGN) : acceptsNumber(c);
                case NUMBER:
                    return acceptsNumber(c);
                default:
                    return acceptsComma(c);
            }
        }

        private boolean goOn(int nextWanted) {
            at++;
            wanted = nextWanted;
            return true;
        }

        private static boolean isLetter(int c) {
            return isIn(c, 'a', 'f');
        }

        private boolean acceptsTarget(int c) {
            if (!isLetter(c)) {
                return false;
            }
            target = c - 'a';
            return goOn(EQUALS);
        }

        private boolean acceptsAtom(int c) {
            if (isLetter(c)) {
                plan.add(Plan.TAKE_MAP, c - 'a');
                return goOn(SIGN);
            }
            if (c == '(') {
                letWait(OPEN);
                open++;
                return goOn(ATOM);
            }
            if (c == '{') {
                plan.add(Plan.TAKE_EMPTY, 0);
                numbers = 0;
                return goOn(FIRST_NUMBER);
            }
            return false;
        }

        private boolean acceptsSign(int c) {
            switch (c) {
                case '+':
                    return takesSign(UNION);
                case '&':
                    return takesSign(MEET);
                case '-':
                    return takesSign(LESS);
                case '^':
                    return takesSign(EITHER);
                case ')':
                    return closesBracket();
                case ';':
                    return endsSum();
                default:
                    return false;
            }
        }

        private boolean takesSign(int sort) {
            writeWaiting(strength(sort));
            letWait(sort);
            return goOn(ATOM);
        }

        private boolean closesBracket() {
            if (open == 0) {
                return false;
            }
            writeWaiting(strength(UNION));
            waits = Math.max(waits - 1, 0);
            open--;
            return goOn(SIGN);
        }

        private boolean endsSum() {
            if (open > 0) {
                return false;
            }
            writeWaiting(strength(UNION));
            plan.add(Plan.STORE, target);
            sumCount++;
            return goOn(TARGET);
        }

        private static int strength(int sign) {
            return sign == OPEN ? 0 : sign == MEET ? 2 : 1;
        }

        private void letWait(int sign) {
            if (waits < TEXT_LIMIT) {
                waiting[waits] = sign;
                waits++;
            }
        }

        private void writeWaiting(int least) {
            while (waits > 0 && strength(waiting[waits - 1]) >= least) {
                waits--;
                plan.add(waiting[waits], 0);
            }
        }

        /**
         * A number that is not as told is at fault as a whole, so the place stays at its first byte: at a '-' that
         * has no figure, too, whatever stands behind it, be it the text's end.
         */
        private boolean acceptsNumber(int c) {
            int start = c == '-' ? at + 1 : at;
            int end = start;
            int n = 0;
            while (end < length && isIn(bytes[end], '0', '9')) {
                n = end - start < FIGURE_LIMIT ? n * 10 + bytes[end] - '0' : n;
                end++;
            }
            if (!isIn(end - start, 1, FIGURE_LIMIT) || n > KEY_LIMIT) {
                return false;
            }
            plan.add(Plan.ADD_KEY, c == '-' ? -n : n);
            numbers++;
            at = end;
            wanted = COMMA;
            return true;
        }

        private boolean acceptsComma(int c) {
            if (c == '}') {
                return goOn(SIGN);
            }
            return c == ',' && numbers < NUMBER_LIMIT && goOn(NUMBER);
        }
    }

    /** Where a plan is done, on maps laid beside the true ones, so that nothing is done if it fails. */
    private static final class Bench {
        final Node[] maps = new Node[MAPS];
        final Node[] stack = new Node[TEXT_LIMIT];
        private final Grove grove;
        private int height;

        Bench(Grove grove) {
            this.grove = grove;
        }

        void lay(Node[] from) {
            height = 0;
            for (int m = 0; m < MAPS; m++) {
                maps[m] = from[m];
            }
            for (int i = 0; i < TEXT_LIMIT; i++) {
                stack[i] = null;
            }
        }

        void bring(Node[] to) {
            for (int m = 0; m < MAPS; m++) {
                to[m] = maps[m];
            }
        }

        /** Does all deeds but the blends, from which more entries may come than a map may have. */
        void act(int deed, int number) {
            switch (deed) {
                case Plan.TAKE_MAP:
                    push(isMap(number) ? maps[number] : null);
                    break;
                case Plan.ADD_KEY:
                    push(grove.with(pop(), number, number));
                    break;
                case Plan.STORE:
                    store(number);
                    break;
                default:
                    push(null);
                    break;
            }
        }

        private void store(int m) {
            Node tree = pop();
            if (isMap(m)) {
                maps[m] = tree;
            }
        }

        void push(Node tree) {
            if (height < TEXT_LIMIT) {
                stack[height] = tree;
                height++;
            }
        }

        Node pop() {
            if (height == 0) {
                return null;
            }
            height--;
            Node tree = stack[height];
            stack[height] = null;
            return tree;
        }
    }
}

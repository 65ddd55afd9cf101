import java.util.ArrayDeque;
import java.util.ArrayList;
import java.util.Comparator;
import java.util.List;
import java.util.Map;
import java.util.NavigableMap;
import java.util.TreeMap;
import java.util.TreeSet;

/** The document once more, in the plainest form that the Java library allows: random runs are held against it. */
final class Model {
    static final int NONE = -2000000001, BAD = -2000000002, NO = -2000000003, FULL = -2000000004;

    private List<TreeMap<Integer, Integer>> maps = new ArrayList<>();
    private final ArrayDeque<List<TreeMap<Integer, Integer>>> versions = new ArrayDeque<>();
    private final int[] refused = new int[3];
    private final StringBuilder text = new StringBuilder();
    private int mixer = 0;

    Model() {
        for (int m = 0; m < 6; m++) {
            maps.add(new TreeMap<>());
        }
    }

    private static final class TooMany extends RuntimeException {
    }

    private static final class Fault extends RuntimeException {
        final int place;

        Fault(int place) {
            this.place = place;
        }
    }

    private int refuse(int why) {
        refused[BAD - why]++;
        return why;
    }

    private static List<TreeMap<Integer, Integer>> copy(List<TreeMap<Integer, Integer>> from) {
        List<TreeMap<Integer, Integer>> all = new ArrayList<>();
        for (TreeMap<Integer, Integer> m : from) {
            all.add(new TreeMap<>(m));
        }
        return all;
    }

    private void leave() {
        versions.addLast(copy(maps));
        if (versions.size() > 12) {
            versions.removeFirst();
        }
    }

    private static boolean in(int n, int a, int b) {
        return n >= a && n <= b;
    }

    private static boolean map(int m) {
        return in(m, 0, 5);
    }

    private static boolean key(int k) {
        return in(k, -500, 500);
    }

    private static boolean range(int a, int b) {
        return key(a) && key(b) && a <= b;
    }

    private static int held(long n) {
        return (int) Math.max(-1000000, Math.min(1000000, n));
    }

    private NavigableMap<Integer, Integer> part(int m, int a, int b) {
        return maps.get(m).subMap(a, true, b, true);
    }

    private static int orNone(Integer n) {
        return n == null ? NONE : n;
    }

    int put(int m, int k, int v) {
        if (!map(m) || !key(k) || !in(v, -1000000, 1000000)) return refuse(BAD);
        if (!maps.get(m).containsKey(k) && maps.get(m).size() == 200) return refuse(FULL);
        leave();
        return orNone(maps.get(m).put(k, v));
    }

    int remove(int m, int k) {
        if (!map(m) || !key(k)) return refuse(BAD);
        if (!maps.get(m).containsKey(k)) return refuse(NO);
        leave();
        return maps.get(m).remove(k);
    }

    int get(int m, int k) {
        if (!map(m) || !key(k)) return refuse(BAD);
        return orNone(maps.get(m).get(k));
    }

    int size(int m) {
        return map(m) ? maps.get(m).size() : refuse(BAD);
    }

    int rank(int m, int k) {
        if (!map(m) || !in(k, -501, 501)) return refuse(BAD);
        return maps.get(m).headMap(k, false).size();
    }

    int nth(int m, int i) {
        if (!map(m) || i < 0) return refuse(BAD);
        return i >= maps.get(m).size() ? NONE : new ArrayList<>(maps.get(m).keySet()).get(i);
    }

    int near(int m, int k, int way) {
        if (!map(m) || !key(k) || Math.abs((long) way) != 1) return refuse(BAD);
        return orNone(way < 0 ? maps.get(m).floorKey(k) : maps.get(m).ceilingKey(k));
    }

    int within(int m, int a, int b) {
        return map(m) && range(a, b) ? part(m, a, b).size() : refuse(BAD);
    }

    long sum(int m, int a, int b) {
        if (!map(m) || !range(a, b)) return refuse(BAD);
        return part(m, a, b).values().stream().mapToLong(v -> v).sum();
    }

    int most(int m, int a, int b, int what) {
        if (!map(m) || !range(a, b) || !in(what, 0, 1)) return refuse(BAD);
        return what == 0 ? part(m, a, b).values().stream().mapToInt(v -> v).max().orElse(NONE)
                : part(m, a, b).values().stream().mapToInt(v -> v).min().orElse(NONE);
    }

    int middle(int m, int a, int b) {
        if (!map(m) || !range(a, b)) return refuse(BAD);
        List<Integer> keys = new ArrayList<>(part(m, a, b).keySet());
        return keys.isEmpty() ? NONE : keys.get((keys.size() - 1) / 2);
    }

    int gap(int m) {
        if (!map(m)) return refuse(BAD);
        int widest = NONE;
        Integer last = null;
        for (int k : maps.get(m).keySet()) {
            if (last != null) widest = Math.max(widest, k - last);
            last = k;
        }
        return widest;
    }

    int top(int m, int j) {
        if (!map(m) || j < 0) return refuse(BAD);
        List<Map.Entry<Integer, Integer>> all = new ArrayList<>(maps.get(m).entrySet());
        all.sort(Comparator.comparing((Map.Entry<Integer, Integer> e) -> -e.getValue()).thenComparing(Map.Entry::getKey));
        return j < all.size() ? all.get(j).getKey() : NONE;
    }

    int same(int a, int b) {
        if (!map(a) || !map(b)) return refuse(BAD);
        return maps.get(a).equals(maps.get(b)) ? 1 : 0;
    }

    int common(int a, int b) {
        if (!map(a) || !map(b)) return refuse(BAD);
        TreeSet<Integer> keys = new TreeSet<>(maps.get(a).keySet());
        keys.retainAll(maps.get(b).keySet());
        return keys.size();
    }

    int apart(int a, int b) {
        if (!map(a) || !map(b)) return refuse(BAD);
        for (int k = -500; k <= 500; k++) {
            if (orNone(maps.get(a).get(k)) != orNone(maps.get(b).get(k))) return k;
        }
        return NONE;
    }

    int cut(int m, int k, int to) {
        if (!map(m) || !key(k) || !map(to) || m == to) return refuse(BAD);
        leave();
        maps.set(to, new TreeMap<>(maps.get(m).tailMap(k, true)));
        maps.set(m, new TreeMap<>(maps.get(m).headMap(k, false)));
        return maps.get(to).size();
    }

    int glue(int a, int b) {
        if (!map(a) || !map(b) || a == b) return refuse(BAD);
        TreeMap<Integer, Integer> l = maps.get(a);
        TreeMap<Integer, Integer> r = maps.get(b);
        if (!l.isEmpty() && !r.isEmpty() && l.lastKey() >= r.firstKey()) return refuse(NO);
        if (l.size() + r.size() > 200) return refuse(FULL);
        leave();
        l.putAll(r);
        r.clear();
        return l.size();
    }

    private int settle(int to, TreeMap<Integer, Integer> m) {
        leave();
        maps.set(to, m);
        return m.size();
    }

    int share(int m, int to) {
        if (!map(m) || !map(to)) return refuse(BAD);
        return settle(to, new TreeMap<>(maps.get(m)));
    }

    private int mixed(int kind, int a, int b) {
        switch (kind) {
            case 0: return a;
            case 1: return b;
            case 2: return held((long) mixed(1, a, b) + a);
            case 3: return Math.max(mixed(0, a, b), b);
            case 4: return a + b - mixed(3, a, b);
            default: return held(mixed(2, a, b) - 2L * b);
        }
    }

    private TreeMap<Integer, Integer> blend(int sort, TreeMap<Integer, Integer> a, TreeMap<Integer, Integer> b) {
        TreeMap<Integer, Integer> out = new TreeMap<>();
        for (int k = -500; k <= 500; k++) {
            Integer l = a.get(k);
            Integer r = b.get(k);
            boolean both = l != null && r != null;
            if (both && sort <= 1) out.put(k, mixed(mixer, l, r));
            if (!both && l != null && sort != 1) out.put(k, l);
            if (!both && r != null && (sort == 0 || sort == 3)) out.put(k, r);
        }
        if (out.size() > 200) throw new TooMany();
        return out;
    }

    int mix(int sort, int a, int b, int to) {
        if (!in(sort, 0, 3) || !map(a) || !map(b) || !map(to)) return refuse(BAD);
        try {
            return settle(to, blend(sort, maps.get(a), maps.get(b)));
        } catch (TooMany e) {
            return refuse(FULL);
        }
    }

    int fill(int m, int from, int n, int step) {
        if (!map(m) || !key(from) || !in(n, 0, 200) || !in(step, 1, 50)) return refuse(BAD);
        TreeMap<Integer, Integer> out = new TreeMap<>();
        for (int i = 0, k = from; i < n; i++, k += step) {
            out.put(k, held((long) k * from));
        }
        if (!out.isEmpty() && out.lastKey() > 500) return refuse(NO);
        return settle(m, out);
    }

    private static boolean passes(int kind, int x, int k, int v) {
        switch (kind) {
            case 0: return true;
            case 1: return Math.floorMod(k, 2) == 0;
            case 2: return v > x;
            case 3: return passes(2, x, k, v) && k > 0;
            default: return !passes(3, x, k, v);
        }
    }

    int sieve(int m, int kind, int x, int to) {
        if (!map(m) || !in(kind, 0, 4) || !in(x, -1000000, 1000000) || !map(to)) return refuse(BAD);
        TreeMap<Integer, Integer> out = new TreeMap<>(maps.get(m));
        out.entrySet().removeIf(e -> !passes(kind, x, e.getKey(), e.getValue()));
        return settle(to, out);
    }

    int raise(int m, int a, int b, int d) {
        if (!map(m) || !range(a, b) || !in(d, -1000, 1000)) return refuse(BAD);
        leave();
        part(m, a, b).replaceAll((k, v) -> held(v + d));
        return part(m, a, b).size();
    }

    int slide(int m, int d) {
        if (!map(m) || !in(d, -1000, 1000)) return refuse(BAD);
        TreeMap<Integer, Integer> out = new TreeMap<>();
        for (Map.Entry<Integer, Integer> e : maps.get(m).entrySet()) {
            if (!key(e.getKey() + d)) return refuse(NO);
            out.put(e.getKey() + d, e.getValue());
        }
        return settle(m, out);
    }

    int zip(int a, int b, int to) {
        if (!map(a) || !map(b) || !map(to)) return refuse(BAD);
        TreeMap<Integer, Integer> out = new TreeMap<>();
        java.util.Iterator<Integer> values = new ArrayList<>(maps.get(b).keySet()).iterator();
        for (int k : maps.get(a).keySet()) {
            if (values.hasNext()) out.put(k, values.next());
        }
        return settle(to, out);
    }

    int clears(int m, int a, int b) {
        if (!map(m) || !range(a, b)) return refuse(BAD);
        leave();
        int n = part(m, a, b).size();
        part(m, a, b).clear();
        return n;
    }

    int scatter(int m, int seed, int n) {
        if (!map(m) || !in(seed, 0, 999999) || !in(n, 0, 100)) return refuse(BAD);
        TreeMap<Integer, Integer> out = new TreeMap<>(maps.get(m));
        long x = seed;
        for (int i = 0; i < n; i++) {
            x = (x * 1103515245 + 12345) & 0x7fffffffL;
            int k = (int) ((x >> 16) % 1001) - 500;
            if ((x >> 10) % 4 == 0) {
                out.remove(k);
            } else {
                out.put(k, (int) ((x >> 12) % 1000));
            }
            if (out.size() > 200) return refuse(FULL);
        }
        return settle(m, out);
    }

    int sound(int m) {
        return map(m) ? 1 : refuse(BAD);
    }

    int mixer(int kind) {
        if (!in(kind, 0, 5)) return refuse(BAD);
        int was = mixer;
        mixer = kind;
        return was;
    }

    int type(int c) {
        if (!in(c, 0, 127)) return refuse(BAD);
        if (text.length() == 120) return refuse(FULL);
        text.append((char) c);
        return text.length();
    }

    int clear() {
        int had = text.length();
        text.setLength(0);
        return had;
    }

    int sums() {
        int n;
        try {
            n = new Sums(text.toString(), null).all();
        } catch (Fault f) {
            return -10 - f.place;
        }
        List<TreeMap<Integer, Integer>> work = copy(maps);
        try {
            new Sums(text.toString(), work).all();
        } catch (TooMany e) {
            return refuse(FULL);
        }
        leave();
        maps = work;
        return n;
    }

    int back() {
        if (versions.isEmpty()) return refuse(NO);
        maps = versions.removeLast();
        return versions.size();
    }

    int told(int what) {
        if (!in(what, 0, 6)) return refuse(BAD);
        int all = maps.stream().mapToInt(TreeMap::size).sum();
        return new int[] {refused[0], refused[1], refused[2], versions.size(), text.length(), mixer, all}[what];
    }

    long digest() {
        long h = 1889;
        for (int what = 0; what < 7; what++) {
            h = 31 * h + told(what);
        }
        for (TreeMap<Integer, Integer> m : maps) {
            h = 31 * h + m.size();
            for (Map.Entry<Integer, Integer> e : m.entrySet()) {
                h = 31 * (31 * h + e.getKey()) + e.getValue();
            }
        }
        return h;
    }

    /** Reads the text by descent; without maps it only looks for the fault. */
    private final class Sums {
        private final String s;
        private final List<TreeMap<Integer, Integer>> on;
        private int at = 0;

        Sums(String s, List<TreeMap<Integer, Integer>> on) {
            this.s = s;
            this.on = on;
        }

        private int peek() {
            while (at < s.length() && s.charAt(at) == ' ') at++;
            return at < s.length() ? s.charAt(at) : -1;
        }

        private void expect(boolean well) {
            if (!well) throw new Fault(at);
        }

        private int letter() {
            int c = peek();
            expect(c >= 'a' && c <= 'f');
            at++;
            return c - 'a';
        }

        int all() {
            int n = 0;
            do {
                int m = letter();
                expect(peek() == '=');
                at++;
                TreeMap<Integer, Integer> made = term();
                expect(peek() == ';');
                at++;
                n++;
                if (on != null) on.set(m, new TreeMap<>(made));
            } while (peek() != -1);
            return n;
        }

        private TreeMap<Integer, Integer> both(int sort, TreeMap<Integer, Integer> a, TreeMap<Integer, Integer> b) {
            return on == null ? a : blend(sort, a, b);
        }

        private TreeMap<Integer, Integer> term() {
            TreeMap<Integer, Integer> out = factor();
            while (peek() != -1 && "+?-^".indexOf(peek()) >= 0 && peek() != '?') {
                int sort = "+?-^".indexOf(peek());
                at++;
                out = both(sort, out, factor());
            }
            return out;
        }

        private TreeMap<Integer, Integer> factor() {
            TreeMap<Integer, Integer> out = atom();
            while (peek() == '&') {
                at++;
                out = both(1, out, atom());
            }
            return out;
        }

        private TreeMap<Integer, Integer> atom() {
            int c = peek();
            if (c == '(') {
                at++;
                TreeMap<Integer, Integer> out = term();
                expect(peek() == ')');
                at++;
                return out;
            }
            if (c == '{') {
                at++;
                return keys();
            }
            int m = letter();
            return on == null ? new TreeMap<>() : on.get(m);
        }

        private TreeMap<Integer, Integer> keys() {
            TreeMap<Integer, Integer> out = new TreeMap<>();
            if (peek() == '}') {
                at++;
                return out;
            }
            for (int n = 1; n <= 8; n++) {
                int k = number();
                out.put(k, k);
                expect(peek() == '}' || (peek() == ',' && n < 8));
                at++;
                if (s.charAt(at - 1) == '}') break;
            }
            return out;
        }

        private int number() {
            peek();
            java.util.regex.Matcher found = java.util.regex.Pattern.compile("^-?[0-9]+").matcher(s.substring(at));
            expect(found.find());
            String figures = found.group().replace("-", "");
            expect(figures.length() <= 3 && Integer.parseInt(figures) <= 500);
            at += found.end();
            return Integer.parseInt(found.group());
        }
    }
}

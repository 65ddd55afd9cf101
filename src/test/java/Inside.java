import java.lang.reflect.Field;

/** Looks at what the class keeps private, for tests of what no call tells. */
final class Inside {
    private Inside() {
    }

    static Object read(Object of, String field) {
        try {
            Field f = of.getClass().getDeclaredField(field);
            f.setAccessible(true);
            return f.get(of);
        } catch (ReflectiveOperationException e) {
            throw new IllegalStateException(e);
        }
    }

    static void write(Object of, String field, Object value) {
        try {
            Field f = of.getClass().getDeclaredField(field);
            f.setAccessible(true);
            f.set(of, value);
        } catch (ReflectiveOperationException e) {
            throw new IllegalStateException(e);
        }
    }

    static Object root(JoinMaps x, int m) {
        return ((Object[]) read(x, "maps"))[m];
    }

    static int nodesMade(JoinMaps x) {
        int n = 0;
        for (Object t = read(read(x, "grove"), "newest"); t != null; t = read(t, "older")) {
            n++;
        }
        return n;
    }

    /** How many entries a tree has, or -1 if a part of it weighs more than 3 times the other one. */
    static int countIfBalanced(Object t) {
        if (t == null) {
            return 0;
        }
        int l = countIfBalanced(read(t, "left"));
        int r = countIfBalanced(read(t, "right"));
        boolean well = l >= 0 && r >= 0 && l + 1 <= 3 * (r + 1) && r + 1 <= 3 * (l + 1);
        return well ? l + r + 1 : -1;
    }
}

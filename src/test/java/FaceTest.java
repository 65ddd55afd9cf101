import java.io.IOException;
import java.lang.reflect.Constructor;
import java.lang.reflect.Field;
import java.lang.reflect.Method;
import java.lang.reflect.Modifier;
import java.nio.file.Files;
import java.nio.file.Path;
import java.util.Set;
import java.util.TreeSet;

/** The face is the document's and no more, and the file keeps to those rules of LANGUAGE.md that a test can see. */
public final class FaceTest {
    private static final String[] FACE = {
            "int put(3)", "int remove(2)", "int get(2)", "int size(1)", "int rank(2)", "int nth(2)", "int near(3)",
            "int within(3)", "long sum(3)", "int most(4)", "int middle(3)", "int gap(1)", "int top(2)", "int same(2)",
            "int common(2)", "int apart(2)", "int cut(3)", "int glue(2)", "int share(2)", "int mix(4)", "int fill(4)",
            "int sieve(4)", "int raise(4)", "int slide(2)", "int zip(3)", "int clears(3)", "int scatter(3)",
            "int sound(1)", "int mixer(1)", "int type(1)", "int clear(0)", "int sums(0)", "int back(0)", "int told(1)",
            "long digest(0)"};

    private FaceTest() {
    }

    public static void main(String[] args) throws IOException {
        constants();
        methods();
        members();
        nestedClasses();
        words();
        Check.end();
    }

    private static void constants() {
        Check.due("NONE", JoinMaps.NONE, -2000000001);
        Check.due("BAD", JoinMaps.BAD, -2000000002);
        Check.due("NO", JoinMaps.NO, -2000000003);
        Check.due("FULL", JoinMaps.FULL, -2000000004);
    }

    private static void methods() {
        Set<String> want = new TreeSet<>(Set.of(FACE));
        Set<String> got = new TreeSet<>();
        for (Method m : JoinMaps.class.getDeclaredMethods()) {
            if (!Modifier.isPrivate(m.getModifiers())) {
                Check.holds(m + " is public and no more", m.getModifiers() == Modifier.PUBLIC);
                got.add(m.getReturnType() + " " + m.getName() + "(" + m.getParameterCount() + ")");
                for (Class<?> type : m.getParameterTypes()) {
                    Check.holds(m + " takes numbers", type == int.class);
                }
            }
        }
        Check.holds("the face is " + got + ", due is " + want, got.equals(want));
    }

    private static void members() {
        Class<?> c = JoinMaps.class;
        Check.holds("the class is public and final", c.getModifiers() == (Modifier.PUBLIC | Modifier.FINAL));
        Check.due("constructors", c.getDeclaredConstructors().length, 1);
        for (Constructor<?> made : c.getDeclaredConstructors()) {
            Check.holds("the constructor is public", made.getModifiers() == Modifier.PUBLIC && made.getParameterCount() == 0);
        }
        Set<String> constants = Set.of("NONE", "BAD", "NO", "FULL");
        for (Field f : c.getDeclaredFields()) {
            boolean open = constants.contains(f.getName());
            Check.holds(f + " is as open as it may be", open == Modifier.isPublic(f.getModifiers())
                    && open != Modifier.isPrivate(f.getModifiers()));
        }
    }

    private static void nestedClasses() {
        Set<String> taken = new TreeSet<>();
        for (String call : FACE) {
            taken.add(call.substring(call.indexOf(' ') + 1, call.indexOf('(')));
        }
        Class<?>[] nested = JoinMaps.class.getDeclaredClasses();
        Check.holds("at most some twelve classes", nested.length + 1 <= 12);
        for (Class<?> c : nested) {
            Check.holds(c + " is static", Modifier.isStatic(c.getModifiers()) && !Modifier.isPublic(c.getModifiers()));
            for (Method m : c.getDeclaredMethods()) {
                Check.holds(m + " has a name of its own", !taken.contains(m.getName()));
                Check.holds(m + " takes at most seven", m.getParameterCount() <= 7);
            }
        }
        for (Method m : JoinMaps.class.getDeclaredMethods()) {
            Check.holds(m + " has a name of its own", Modifier.isPublic(m.getModifiers()) || !taken.contains(m.getName()));
        }
        statics(JoinMaps.class);
        for (Class<?> c : nested) {
            statics(c);
        }
    }

    private static void statics(Class<?> c) {
        int own = 0;
        for (Field f : c.getDeclaredFields()) {
            if (Modifier.isStatic(f.getModifiers())) {
                Check.holds(f + " is a constant", Modifier.isFinal(f.getModifiers()) && f.getType() == int.class);
            } else {
                own++;
            }
        }
        Check.holds(c + " has at most some twenty fields", own <= 20);
    }

    private static void words() throws IOException {
        String source = Files.readString(Path.of("src/main/java/JoinMaps.java"));
        String code = source.replaceAll("(?s)/\\*.*?\\*/", " ").replaceAll("//.*", " ");
        String[] never = {"throw", "throws", "try", "catch", "finally", "synchronized", "assert", "import", "package",
                "hashCode", "toString", "Thread", "Random", "System", "protected"};
        for (String word : never) {
            Check.holds("the word " + word + " stands in the code", !code.matches("(?s).*\\b" + word + "\\b.*"));
        }
        Check.holds("a lambda stands in the code", !code.contains("->"));
        Check.holds("a method reference stands in the code", !code.contains("::"));
        Check.holds("a sign above 127 stands in the file", source.chars().allMatch(c -> c < 128));
    }
}

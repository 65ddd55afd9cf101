/** The text: what can stand where (promise 33 and THE TEXT of the terms), and what the signs do. */
public final class TextTest {
    private TextTest() {
    }

    public static void main(String[] args) {
        wellFormed();
        faults();
        everyByteInEveryPlace();
        deepBrackets();
        longestTexts();
        signs();
        sumsOneBehindTheOther();
        full();
        fullAgainAndAgain();
        Check.end();
    }

    private static JoinMaps maps() {
        JoinMaps x = new JoinMaps();
        for (int k = 1; k <= 6; k++) {
            x.put(0, k, 10 + k);
            x.put(1, k + 2, 20 + k);
            x.put(2, k + 4, 30 + k);
        }
        return x;
    }

    private static int sums(String text) {
        JoinMaps x = maps();
        Check.write(x, text);
        return x.sums();
    }

    private static void wellFormed() {
        String[] one = {"a=b;", " a=b;", "a =b;", "a= b;", "a=b ;", "a=b; ", "   a   =   b   ;   ", "f=a;", "a=f;",
                "a={};", "a={ };", "a={1};", "a={ 1 , -2 };", "a={-500,500};", "a={1,2,3,4,5,6,7,8};", "a={000,-00,-0};",
                "a=(b);", "a=((b));", "a=( b )&c;", "a=b+c-d^e&f;", "a={1}-{2};", "a=b-{-1};"};
        for (String text : one) {
            Check.due("\"" + text + "\"", sums(text), 1);
        }
        Check.due("two", sums("a=b;b=a;"), 2);
        Check.due("three", sums("a=b; b=a ; c=c;"), 3);
    }

    /** A text and the place of its fault; where a text ends too early that is its length. */
    private static final Object[][] FAULTS = {
            {"", 0}, {" ", 1}, {"a", 1}, {"a ", 2}, {"a=", 2}, {"a=b", 3}, {"a=b+", 4}, {"a=b&", 4}, {"a=(", 3},
            {"a=(b", 4}, {"a=(b)", 5}, {"a={", 3}, {"a={1", 4}, {"a={1,", 5}, {"a={1,2", 6}, {"a={}", 4},
            {"a=b;a", 5}, {"a=b;a=", 6}, {"a=b; c=d", 8},
            {"=", 0}, {";", 0}, {"g=a;", 0}, {"A=a;", 0}, {"`=a;", 0}, {"1=a;", 0}, {"(a)=b;", 0}, {" ;", 1},
            {"aa=b;", 1}, {"a;", 1}, {"a+b;", 1}, {"a==b;", 2}, {"a=;", 2}, {"a=g;", 2}, {"a=1;", 2}, {"a=-b;", 2},
            {"a=+b;", 2}, {"a=&b;", 2}, {"a=);", 2}, {"a=};", 2}, {"a=,;", 2},
            {"a=bb;", 3}, {"a=b c;", 4}, {"a=b=c;", 3}, {"a=b(c);", 3}, {"a=b{};", 3}, {"a=b);", 3}, {"a=b,c;", 3},
            {"a=b1;", 3}, {"a=b+;", 4}, {"a=b++c;", 4}, {"a=b+-c;", 4}, {"a=b&&c;", 4}, {"a=b-1;", 4}, {"a=b^;", 4},
            {"a=();", 3}, {"a=(b;", 4}, {"a=(b+);", 5}, {"a=(b));", 5}, {"a=((b);", 6}, {"a=(b)c;", 5}, {"a=(b)(c);", 5},
            {"a=b;;", 4}, {"a=b;=", 4}, {"a=b; ;", 5},
            {"a={,};", 3}, {"a={1,};", 5}, {"a={1;", 4}, {"a={1 2};", 5}, {"a={b};", 3}, {"a={1b};", 4}, {"a={1)};", 4},
            {"a={(1)};", 3}, {"a={1,,2};", 5}, {"a={1}};", 5}, {"a={1}2;", 5}, {"a={+1};", 3}, {"a={1-2};", 4},
            {"a={1,2,3,4,5,6,7,8,9};", 18}, {"a={1,2,3,4,5,6,7,8,", 18}, {"a={1,2,3,4,5,6,7,8", 18},
            {"a={501};", 3}, {"a={-501};", 3}, {"a={999};", 3}, {"a={0001};", 3}, {"a={1000};", 3}, {"a={-0000};", 3},
            {"a={1,-1234};", 5}, {"a={1, 501};", 6}, {"a={501", 3}, {"a={12345678901234567890};", 3},
            {"a={-};", 3}, {"a={--1};", 3}, {"a={- 1};", 3}, {"a={1,-};", 5}, {"a={-b};", 3},
            {"a={-", 3}, {"a={- ", 3}, {"a={ -", 4}, {"a={1,-", 5}, {"a={1, -", 6}, {"a=b;c={-", 7}, {"a={-1", 5},
            {"a={-501", 3}, {"a={1234", 3}, {"a={-1234", 3}, {"a={500", 6}, {"a=b-", 4},
            {"a\t=b;", 1}, {"a=b;\n", 4}, {"a=\0;", 2}, {"a=b\u007f;", 3}};

    private static void faults() {
        for (Object[] f : FAULTS) {
            Check.due("\"" + f[0] + "\"", sums((String) f[0]), -10 - (Integer) f[1]);
        }
    }

    /**
     * Which bytes can stand behind a beginning: all others are the fault, these make the text end too early. The - of
     * a number is not among them, since it is at fault itself as long as no figure stands behind it.
     */
    private static void everyByteInEveryPlace() {
        String[][] can = {{"", " abcdef"}, {"a", " ="}, {"a=", " abcdef({"}, {"a=b", " +-^&;"}, {"a=(b", " +-^&)"},
                {"a=b+", " abcdef({"}, {"a=b&", " abcdef({"}, {"a={", " }0123456789"}, {"a={1", " ,}0123456789"},
                {"a={1,", " 0123456789"}, {"a={1 ", " ,}"}, {"a={}", " +-^&;"}, {"a=(b)", " +-^&;"},
                {"a=b;", " abcdef"}, {"a={1,2,3,4,5,6,7,8", " }0123456789"}};
        for (String[] c : can) {
            for (int b = 0; b < 128; b++) {
                int got = sums(c[0] + (char) b);
                boolean stands = c[1].indexOf(b) >= 0;
                boolean whole = stands && (b == ';' || (b == ' ' && c[0].endsWith(";")));
                int want = whole ? 1 : -10 - c[0].length() - (stands ? 1 : 0);
                Check.due("\"" + c[0] + "\" and byte " + b, got, want);
            }
        }
    }

    private static void deepBrackets() {
        int deep = 58;
        Check.due("58 brackets", sums("a=" + "(".repeat(deep) + "b" + ")".repeat(deep) + ";"), 1);
        Check.due("58 brackets, 59 closed", sums("a=" + "(".repeat(deep) + "b" + ")".repeat(deep + 1)), -10 - 119);
        Check.due("118 open", sums("a=" + "(".repeat(118)), -10 - 120);
        String nested = "(c&".repeat(28) + "b" + ")".repeat(28);
        Check.due("28 brackets with signs", sums("a=" + nested + ";"), 1);
        String left = "a=" + "b^(".repeat(29) + "b" + ")".repeat(29) + ";";
        Check.due("29 brackets on the right", sums(left), 1);
    }

    private static void longestTexts() {
        Check.due("30 sums", sums("a=b;".repeat(30)), 30);
        Check.due("58 signs", sums("a=b" + "+c".repeat(58) + ";"), 1);
        Check.due("58 signs, unended", sums("a=b" + "^c".repeat(58) + "+"), -10 - 120);
        Check.due("blanks", sums(" ".repeat(116) + "a=b;"), 1);
        Check.due("blanks alone", sums(" ".repeat(120)), -10 - 120);
        Check.due("39 empty ones", sums("a=" + "{}+".repeat(38) + "{};"), 1);
    }

    private static void dueMap(int mixer, String text, int m, String want) {
        JoinMaps x = maps();
        x.mixer(mixer);
        Check.write(x, text);
        x.sums();
        Check.dueMap("\"" + text + "\"", x, m, want);
    }

    private static void signs() {
        dueMap(0, "d=a+b;", 3, "{1:11,2:12,3:13,4:14,5:15,6:16,7:25,8:26}");
        dueMap(1, "d=a+b;", 3, "{1:11,2:12,3:21,4:22,5:23,6:24,7:25,8:26}");
        dueMap(1, "d=a&b;", 3, "{3:21,4:22,5:23,6:24}");
        dueMap(2, "d=a&b&c;", 3, "{5:69,6:72}");
        dueMap(0, "d=a-b;", 3, "{1:11,2:12}");
        dueMap(0, "d=a^b;", 3, "{1:11,2:12,7:25,8:26}");
        dueMap(0, "d=a-b-c;", 3, "{1:11,2:12}");
        dueMap(0, "d=a-(b-c);", 3, "{1:11,2:12,5:15,6:16}");
        dueMap(0, "d=a-b+c;", 3, "{1:11,2:12,5:31,6:32,7:33,8:34,9:35,10:36}");
        dueMap(0, "d=a-b&c;", 3, "{1:11,2:12,3:13,4:14}");
        dueMap(0, "d=(a-b)&c;", 3, "{}");
        dueMap(0, "d=a&b-c;", 3, "{3:13,4:14}");
        dueMap(0, "d=a&(b-c);", 3, "{3:13,4:14}");
        dueMap(0, "d=a^b^c;", 3, "{1:11,2:12,5:31,6:32,9:35,10:36}");
        dueMap(5, "d=a&b;", 3, "{3:-8,4:-8,5:-8,6:-8}");
        dueMap(5, "d=b&a;", 3, "{3:8,4:8,5:8,6:8}");
        dueMap(0, "d={3,-1,3,003};", 3, "{-1:-1,3:3}");
        dueMap(2, "d={3,3}+{3};", 3, "{3:6}");
        dueMap(0, "d={500,-500,-0};", 3, "{-500:-500,0:0,500:500}");
        dueMap(0, "d={};", 3, "{}");
    }

    private static void sumsOneBehindTheOther() {
        dueMap(2, "a={1};a=a+a;a=a+a;", 0, "{1:4}");
        dueMap(0, "d=a;a=b;b=d;", 1, "{1:11,2:12,3:13,4:14,5:15,6:16}");
        dueMap(0, "a={1};b=a;a={2};", 1, "{1:1}");
        JoinMaps x = maps();
        Check.write(x, "a={1};b=a;a={2};");
        Check.due("three sums", x.sums(), 3);
        Check.due("three sums: versions", x.told(3), 12);
        x.back();
        Check.dueMap("three sums, back", x, 0, "{1:11,2:12,3:13,4:14,5:15,6:16}");
        Check.dueMap("three sums, back", x, 1, "{3:21,4:22,5:23,6:24,7:25,8:26}");
    }

    private static void dueFull(String text, int want) {
        JoinMaps x = new JoinMaps();
        x.fill(0, -500, 200, 1);
        x.fill(1, -301, 2, 1);
        x.fill(2, 0, 1, 1);
        Check.write(x, text);
        Check.due("\"" + text + "\"", x.sums(), want);
        Check.due("\"" + text + "\": told", x.told(2), want == JoinMaps.FULL ? 1 : 0);
        Check.due("\"" + text + "\": versions", x.told(3), want < 0 ? 3 : 4);
        if (want < 0) {
            Check.due("\"" + text + "\": nothing done", x.told(6), 203);
        }
    }

    /** What a refused text left half done does not come into the way of later ones. */
    private static void fullAgainAndAgain() {
        JoinMaps x = new JoinMaps();
        x.fill(0, -500, 200, 1);
        x.fill(1, 0, 200, 1);
        Check.write(x, "d=" + "{7}-(".repeat(15) + "a+b" + ")".repeat(15) + ";");
        for (int i = 1; i <= 50; i++) {
            Check.due("full, time " + i, x.sums(), JoinMaps.FULL);
        }
        x.clears(1, 0, 500);
        Check.due("no more full", x.sums(), 1);
        Check.dueMap("no more full", x, 3, "{7:7}");
    }

    private static void full() {
        dueFull("d=a+b;", JoinMaps.FULL);
        dueFull("d=a^b;", 1);
        dueFull("d=a^c;", JoinMaps.FULL);
        dueFull("d=(a+b)&c;", JoinMaps.FULL);
        dueFull("d=(a^c)-a;", JoinMaps.FULL);
        dueFull("d={1};e=a+b;", JoinMaps.FULL);
        dueFull("a={};e=a+b;", 2);
        dueFull("d=a+b&a;", 1);
        dueFull("d=b+a;", JoinMaps.FULL);
        dueFull("d=a-b+c;", 1);
        dueFull("d=a+b", -15);
    }
}

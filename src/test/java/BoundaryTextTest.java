/** THE TEXT and promise 33, sums: the sentences that name a boundary case, each with a test of its own. */
public final class BoundaryTextTest {
    private static final int FULL = JoinMaps.FULL;

    private BoundaryTextTest() {
    }

    public static void main(String[] args) {
        longest();
        letters();
        eachEndedBySemicolon();
        endsTooEarly();
        fromTheLeftOn();
        countOfNumbers();
        likeNumbersOnce();
        figures();
        numbersInReach();
        minusOfNumbers();
        blanks();
        onlyBlanksAreBlank();
        faultAtFirstByte();
        brackets();
        nothingIsDone();
        oneVersionForAll();
        oneBehindTheOther();
        full();
        faultAheadOfFull();
        textsOneAfterAnother();
        Check.end();
    }

    /** Maps a, b, c of a few entries each, d to f empty, and a text. */
    private static JoinMaps made(String text) {
        JoinMaps x = Boundary.of(1, 10, 2, 20);
        Boundary.with(x, 1, 2, 200, 3, 300);
        Boundary.with(x, 2, 3, 3000, 1, 1000);
        return Boundary.typed(x, text);
    }

    private static void done(String sentence, String text, int sums, String... maps) {
        Boundary.changes("33: " + sentence + ", \"" + text + "\"", () -> made(text), JoinMaps::sums, sums, maps);
    }

    private static void fault(String sentence, String text, int place) {
        Boundary.answers("33: " + sentence + ", \"" + text + "\"", () -> made(text), JoinMaps::sums, -10 - place);
    }

    private static void longest() {
        done("120 bytes", "a=b" + "&b".repeat(58) + ";", 1, "a={2:200,3:300}");
        done("120 bytes", "a=b;".repeat(30), 30, "a={2:200,3:300}");
        done("119 bytes", " ".repeat(115) + "a=b;", 1, "a={2:200,3:300}");
        fault("120 bytes, ending too early", "a=b" + "&b".repeat(58) + "&", 120);
        fault("120 bytes, the last is wrong", "a=b" + "&b".repeat(58) + "b", 119);
        fault("120 bytes, ending in a NUMBER", " ".repeat(116) + "a={1", 120);
        fault("120 bytes, ending in a -", " ".repeat(116) + "a={-", 119);
        fault("120 bytes, ending in four figures", " ".repeat(113) + "a={1234", 116);
        fault("120 blanks", " ".repeat(120), 120);
        fault("the first is wrong", ";".repeat(120), 0);
    }

    private static void letters() {
        done("a letter a", "a=a;", 1, "a={1:10,2:20}");
        done("a letter f", "f=a;", 1, "f={1:10,2:20}");
        done("a letter f", "a=f;", 1, "a={}");
        fault("no letter: below a", "`=a;", 0);
        fault("no letter: above f", "g=a;", 0);
        fault("no letter: large", "A=a;", 0);
        fault("no ATOM: below a", "a=`;", 2);
        fault("no ATOM: above f", "a=g;", 2);
        fault("no ATOM: large", "a=F;", 2);
        for (int c = 0; c < 128; c++) {
            boolean letter = c >= 'a' && c <= 'f';
            if (!letter && c != ' ') {
                fault("no letter: byte " + c, (char) c + "=a;", 0);
            }
            if (!letter && c != ' ' && c != '(' && c != '{') {
                fault("no ATOM: byte " + c, "a=" + (char) c + ";", 2);
            }
        }
    }

    private static void eachEndedBySemicolon() {
        done("one", "a=b;", 1);
        done("two", "a=b;b=a;", 2);
        fault("an empty one", "", 0);
        fault("none ended", "a=b", 3);
        fault("the last not ended", "a=b;b=a", 7);
        fault("the first not ended", "a=bb=a;", 3);
        fault("ended twice", "a=b;;", 4);
        fault("ended without a SUM", ";", 0);
        fault("ended without a TERM", "a=;", 2);
        fault("ended without a =", "a;", 1);
    }

    /** Each beginning of a text ends too early, but for those that are whole SUMS and those whose NUMBER is a lone -. */
    private static void endsTooEarly() {
        String text = "a = b + ( c & { 1 , 22 , -3 } ) - d ^ { } ; b={-500};";
        for (int n = 0; n < text.length(); n++) {
            String start = text.substring(0, n);
            String trimmed = start.trim();
            if (trimmed.endsWith(";")) {
                done("whole", start, 1);
            } else if (trimmed.endsWith(", -") || trimmed.endsWith("{-")) {
                fault("a lone -", start, start.lastIndexOf('-'));
            } else {
                fault("ends too early", start, n);
            }
        }
        done("whole", text, 2);
    }

    private static void fromTheLeftOn() {
        done("- from the left on", "d=a-b-a;", 1, "d={}");
        done("- within brackets", "d=a-(b-a);", 1, "d={1:10,2:20}");
        done("- and + from the left on", "d=a-b+b;", 1, "d={1:10,2:200,3:300}");
        done("+ and - from the left on", "d=a+b-b;", 1, "d={1:10}");
        done("^ and - from the left on", "d=a^b-c;", 1, "d={}");
        done("^ and - within brackets", "d=a^(b-c);", 1, "d={1:10}");
        done("& ahead of +", "d=a+b&c;", 1, "d={1:10,2:20,3:300}");
        done("& ahead of -", "d=a-b&c;", 1, "d={1:10,2:20}");
        done("& ahead of ^", "d=c^a&b;", 1, "d={1:1000,2:20,3:3000}");
        done("& behind brackets", "d=(a+b)&c;", 1, "d={1:10,3:300}");
        JoinMaps x = made("d=b&b&b;e=b&(b-a)+b;");
        x.mixer(5);
        Check.due("33: & from the left on, mixed", x.sums(), 2);
        // b less b is 0, less b is -200; within brackets it would be 200.
        Check.dueMap("33: & from the left on, mixed", x, 3, "{2:-200,3:-300}");
        Check.dueMap("33: UNION mixed, left first", x, 4, "{2:200,3:-300}");
    }

    private static void countOfNumbers() {
        done("0 NUMBERS", "a={};", 1, "a={}");
        done("0 NUMBERS", "a={   };", 1, "a={}");
        done("1 NUMBER", "a={5};", 1, "a={5:5}");
        done("8 NUMBERS", "a={1,2,3,4,5,6,7,8};", 1, "a={1:1,2:2,3:3,4:4,5:5,6:6,7:7,8:8}");
        done("8 like NUMBERS", "a={1,1,1,1,1,1,1,1};", 1, "a={1:1}");
        done("8 NUMBERS each", "a={1,2,3,4,5,6,7,8}&{1,2,3,4,5,6,7,9};", 1);
        fault("9 NUMBERS", "a={1,2,3,4,5,6,7,8,9};", 18);
        fault("9 like NUMBERS", "a={1,1,1,1,1,1,1,1,1};", 18);
        fault("a , behind the eighth", "a={1,2,3,4,5,6,7,8,};", 18);
        fault("a , behind the eighth, blanks", "a={1,2,3,4,5,6,7,8 ,9};", 19);
        fault("8 NUMBERS, then 9", "a={1,2,3,4,5,6,7,8}&{1,2,3,4,5,6,7,8,9};", 36);
        fault("a , without a NUMBER", "a={,};", 3);
        fault("a , without a NUMBER behind", "a={1,};", 5);
        fault("a , without a NUMBER between", "a={1,,2};", 5);
        fault("NUMBERS without a ,", "a={1 2};", 5);
    }

    private static void likeNumbersOnce() {
        done("of like ones once", "a={3,3};", 1, "a={3:3}");
        done("0 and -0 are alike", "a={0,-0,00,-000};", 1, "a={0:0}");
        done("7 and 007 are alike", "a={7,07,007};", 1, "a={7:7}");
        done("3 and -3 are not", "a={3,-3};", 1, "a={-3:-3,3:3}");
        JoinMaps x = made("a={3,3,4}+{4};");
        x.mixer(2);
        x.sums();
        Check.dueMap("33: like ones are not mixed, those of two ATOMS are", x, 0, "{3:3,4:8}");
    }

    private static void figures() {
        done("1 figure", "a={9};", 1, "a={9:9}");
        done("2 figures", "a={99};", 1, "a={99:99}");
        done("3 figures", "a={499};", 1, "a={499:499}");
        done("3 figures of 0", "a={000};", 1, "a={0:0}");
        fault("4 figures", "a={1234};", 3);
        fault("4 figures in reach", "a={0001};", 3);
        fault("4 figures with a -", "a={-0001};", 3);
        fault("4 figures behind a ,", "a={1,0002};", 5);
        fault("4 figures behind a blank", "a={1, 0002};", 6);
        fault("4 figures at the end", "a={0001", 3);
        fault("many figures", "a={" + "1".repeat(110) + "};", 3);
        fault("figures that would wrap around", "a={4294967297};", 3);
        fault("figures that would wrap around", "a={18446744073709551617};", 3);
        done("all figures", "a={123,45,67,89,0};", 1, "a={0:0,45:45,67:67,89:89,123:123}");
        fault("below the figures", "a={/};", 3);
        fault("above the figures", "a={:};", 3);
    }

    private static void numbersInReach() {
        done("the greatest", "a={500};", 1, "a={500:500}");
        done("the least", "a={-500};", 1, "a={-500:-500}");
        fault("one above", "a={501};", 3);
        fault("one below", "a={-501};", 3);
        fault("far above", "a={999};", 3);
        fault("far below", "a={-999};", 3);
        fault("one above, behind a ,", "a={1,501};", 5);
        fault("one below, behind a , and a blank", "a={1, -501};", 6);
        fault("one above, at the end", "a={501", 3);
        fault("one below, at the end", "a={-501", 3);
        fault("in reach, at the end", "a={500", 6);
        fault("in reach with a -, at the end", "a={-500", 7);
        fault("one above, then a fault behind it", "a={501;", 3);
    }

    private static void minusOfNumbers() {
        done("with a -", "a={-1};", 1, "a={-1:-1}");
        fault("a - alone", "a={-};", 3);
        fault("a - alone at the end", "a={-", 3);
        fault("a - alone, then a ,", "a={-,1};", 3);
        fault("a - alone behind a ,", "a={1,-};", 5);
        fault("a - alone at the end, behind a ,", "a={1,-", 5);
        fault("two of them", "a={--1};", 3);
        fault("behind the figures", "a={1-};", 4);
        fault("between figures", "a={1-2};", 4);
        fault("a + is none", "a={+1};", 3);
    }

    private static void blanks() {
        String tight = "d=(a+{12,-3})-b^{}&c;";
        for (int at = 0; at <= tight.length(); at++) {
            String text = tight.substring(0, at) + " " + tight.substring(at);
            if (at == 7) {
                fault("a blank within a NUMBER", text, 8);
            } else if (at == 10) {
                fault("a blank behind the - of a NUMBER", text, 9);
            } else {
                done("a blank", text, 1, "d={-3:-3,1:10,12:12}");
            }
        }
        done("many blanks", "   d   =   a   ;   ", 1, "d={1:10,2:20}");
        done("blanks between SUMS", "d=a;  e=b;", 2, "d={1:10,2:20}", "e={2:200,3:300}");
        fault("blanks alone", "   ", 3);
        fault("blanks, then the end", "a= ", 3);
        fault("blanks, then a fault", "a=  ;", 4);
    }

    /** "Blanks (32)": no other byte is one. */
    private static void onlyBlanksAreBlank() {
        for (int c : new int[] {0, 9, 10, 11, 12, 13, 31, 33, 127}) {
            fault("no blank: byte " + c, (char) c + "a=b;", 0);
            fault("no blank: byte " + c, "a" + (char) c + "=b;", 1);
            fault("no blank: byte " + c, "a=" + (char) c + "b;", 2);
            fault("no blank: byte " + c, "a=b" + (char) c + ";", 3);
            fault("no blank: byte " + c, "a=b;" + (char) c, 4);
            fault("no blank: byte " + c, "a={" + (char) c + "};", 3);
            fault("no blank: byte " + c, "a={1" + (char) c + "};", 4);
            fault("no blank: byte " + c, "a={1," + (char) c + "2};", 5);
        }
    }

    private static void faultAtFirstByte() {
        fault("the first of two", "a=g;b=h;", 2);
        fault("in the last SUM", "a=b;b=h;", 6);
        fault("a TERM that starts with a sign", "a=-b;", 2);
        fault("two signs", "a=b+-c;", 4);
        fault("two letters", "a=bc;", 3);
        fault("two =", "a==b;", 2);
        fault("a NUMBER without { }", "a=1;", 2);
        fault("a NUMBER behind a letter", "a=b1;", 3);
        fault("a , outside of { }", "a=b,c;", 3);
        fault("a } without a {", "a=b};", 3);
        fault("a letter within { }", "a={b};", 3);
        fault("a { within { }", "a={{};", 3);
        fault("a ; within { }", "a={1;", 4);
        fault("a { } behind a letter", "a=b{};", 3);
        fault("a sign ahead of the ;", "a=b&;", 4);
    }

    private static void brackets() {
        done("as deep as can be", "a=" + "(".repeat(58) + "b" + ")".repeat(58) + ";", 1, "a={2:200,3:300}");
        done("one", "a=(b);", 1, "a={2:200,3:300}");
        fault("an empty one", "a=();", 3);
        fault("not closed", "a=(b;", 4);
        fault("one of two not closed", "a=((b);", 6);
        fault("closed without one", "a=b);", 3);
        fault("closed twice", "a=(b));", 5);
        fault("closed behind a sign", "a=(b+);", 5);
        fault("closed in the next SUM", "a=(b;c=d);", 4);
        fault("not closed in the SUM ahead", "a=(b);c=d);", 9);
        fault("two beside one another", "a=(b)(c);", 5);
        fault("open to the end", "a=" + "(".repeat(118), 120);
    }

    /** A FAULT in the last SUM leaves those ahead of it undone, too. */
    private static void nothingIsDone() {
        fault("nothing is done", "a={};b={};c=g;", 12);
        fault("nothing is done", "a={};b={};c", 11);
    }

    private static void oneVersionForAll() {
        done("one for all", "a={};b={};c={};", 3, "a={}", "b={}", "c={}");
        done("one for what was there", "a=a;", 1, "a={1:10,2:20}");
        JoinMaps x = made("a={};");
        Check.due("33: SUMS are done", x.sums(), 1);
        Check.due("33: THE TEXT stays", x.told(4), 5);
        Check.due("33: and is done again", x.sums(), 1);
        Check.due("33: a VERSION each time", x.told(3), 8);
    }

    private static void oneBehindTheOther() {
        done("one behind the other", "a={5};b=a;a={6};", 3, "a={6:6}", "b={5:5}");
        done("to and from one MAP", "a=a-{1};a=a-{2};", 2, "a={}");
        done("exchanged", "d=a;a=b;b=d;", 3, "a={2:200,3:300}", "b={1:10,2:20}");
    }

    /** Map a has 200 entries, map b the last of them and one more, map c one that neither has. */
    private static JoinMaps crowded(String text) {
        JoinMaps x = Boundary.filled(200);
        x.fill(1, -301, 2, 1);
        x.fill(2, 0, 1, 1);
        return Boundary.typed(x, text);
    }

    private static void tooMany(String sentence, String text) {
        Boundary.refuses("33: FULL: " + sentence + ", \"" + text + "\"", () -> crowded(text), JoinMaps::sums, FULL);
    }

    private static void enough(String sentence, String text, int sums) {
        Boundary.changes("33: " + sentence + ", \"" + text + "\"", () -> crowded(text), JoinMaps::sums, sums);
    }

    private static void full() {
        tooMany("a UNION of 201", "d=a+b;");
        tooMany("a UNION of 201, the other way", "d=b+a;");
        tooMany("an EITHER of 201", "d=a^c;");
        tooMany("an EITHER of 201, the other way", "d=c^a;");
        enough("a UNION of 200", "d=a+a;", 1);
        enough("a UNION of 200", "d=a-{-500}+c;", 1);
        enough("an EITHER of 200", "d=a^b;", 1);
        enough("a MEET never has too many", "d=a&a&b;", 1);
        enough("a LESS never has too many", "d=a-c;", 1);
        tooMany("within brackets, less would be left", "d=(a+b)&c;");
        tooMany("within brackets, less would be left", "d=(a^c)-a;");
        tooMany("on the right side of a sign", "d={}&(a+c);");
        tooMany("then taken away", "d=a+c-a;");
        tooMany("in the last SUM", "d={1};e={2};f=a+c;");
        tooMany("in the first SUM", "d=a+c;d={};");
        tooMany("of one that a SUM ahead made", "d=a;d=d+c;");
        enough("of one that a SUM ahead made smaller", "a={};d=a+c;", 2);
        tooMany("of NUMBERS", "d=a+{0};");
        enough("of NUMBERS that are there", "d=a+{-500,-301};", 1);
    }

    private static void faultAheadOfFull() {
        Boundary.answers("33: a FAULT ahead of FULL", () -> crowded("d=a+b"), JoinMaps::sums, -15);
        Boundary.answers("33: a FAULT ahead of FULL", () -> crowded("d=a+b;e=g;"), JoinMaps::sums, -18);
    }

    /** A text that was at fault, or refused, leaves nothing behind for the next one of the same object. */
    private static void textsOneAfterAnother() {
        String[] faults = {"a=((((", "a=(b&(c+", "a=b+c&", "a=b;c=d;e=", "a={1,2,3,4,5,6,7", "a={-", "a", "", "a=b;g"};
        JoinMaps x = made("");
        int versions = x.told(3);
        for (String text : faults) {
            Check.write(x, text);
            int place = text.endsWith("-") || text.endsWith("g") ? text.length() - 1 : text.length();
            Check.due("33: \"" + text + "\"", x.sums(), -10 - place);
            Check.write(x, "d=a+b&c;");
            Check.due("33: behind \"" + text + "\"", x.sums(), 1);
            Check.dueMap("33: behind \"" + text + "\"", x, 3, "{1:10,2:20,3:300}");
            Check.write(x, "d=b);");
            Check.due("33: behind \"" + text + "\", closed without one", x.sums(), -13);
            Check.due("33: behind \"" + text + "\"", x.back(), versions);
        }
        for (String text : new String[] {"a={1", "a={50", "a={-50", "a={500", "a={"}) {
            // Of the text that was wiped, the figure at this one's length would make a NUMBER that is not as told.
            Check.write(x, text + "1234567");
            Check.write(x, text);
            Check.due("33: behind what was wiped, \"" + text + "\"", x.sums(), -10 - text.length());
        }
        JoinMaps y = crowded("d=c-(c-(c-(a+c)));");
        Check.due("33: FULL within brackets", y.sums(), FULL);
        Check.write(y, "d=c-b;");
        Check.due("33: behind FULL", y.sums(), 1);
        Check.dueMap("33: behind FULL", y, 3, "{0:0}");
    }
}

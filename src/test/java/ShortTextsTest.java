/**
 * Every short text that can be made of some bytes, held against the model. A text with a fault is not gone on with, once
 * it has been looked at that a byte more leaves its fault where it is.
 */
public final class ShortTextsTest {
    private static final String BYTES = "afg=+-^&(){},; 05";

    private int texts;

    private ShortTextsTest() {
    }

    public static void main(String[] args) {
        ShortTextsTest all = new ShortTextsTest();
        all.from("", 9);
        all.from("a={1,2,3,4,5,6,7,", 23);
        all.from("a={5", 9);
        Check.holds("only " + all.texts + " texts were made", all.texts > 500000);
        Check.end();
    }

    private void from(String start, int longest) {
        if (start.length() >= longest || Check.wrongSoFar() > 0) {
            return;
        }
        for (int i = 0; i < BYTES.length(); i++) {
            String text = start + BYTES.charAt(i);
            int answer = compared(text);
            if (answer > 0 || answer == -10 - text.length() || endsInMinus(text)) {
                from(text, longest);
            } else {
                Check.due("\"" + text + "\" and a byte more", compared(text + "0"), answer);
            }
        }
    }

    /** The - of a NUMBER is at fault as long as no figure stands behind it. */
    private static boolean endsInMinus(String text) {
        return text.matches(".*[{,] *-");
    }

    private int compared(String text) {
        texts++;
        JoinMaps x = new JoinMaps();
        Model model = new Model();
        x.put(0, 0, 1);
        model.put(0, 0, 1);
        x.put(5, 5, 2);
        model.put(5, 5, 2);
        for (int i = 0; i < text.length(); i++) {
            x.type(text.charAt(i));
            model.type(text.charAt(i));
        }
        int answer = x.sums();
        Check.due("\"" + text + "\"", answer, model.sums());
        Check.due("\"" + text + "\": digest()", x.digest(), model.digest());
        return answer;
    }
}

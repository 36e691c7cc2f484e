/**
 * All TEXTS of a few TOKENS, in the places of a TEXT where they matter: the program and the Model must
 * find the same FAULT, or read what tells the same.
 */
public final class ShortTextsTest {
    private static final Checks CHECKS = new Checks("ShortTextsTest");
    private static final String[] ALL = {
        "1", "point", "lays", "yields", "drops", "or", "and", "not", "(", ")", ";", "+", "-", "*", "<", "=",
        "12345", "foo", "#",
    };
    private static final String[] OF_AN_E = {"0", "holds", "or", "and", "not", "(", ")", "+", "-", "*", "<", "="};
    private static final String[] OPENING = {"(", "not", "-"};
    /** No answer is due behind the 512th call of one object; a TEXT takes up to 160 and some. */
    private static final int ENOUGH_CALLS = 512 - 200;

    private LaidByArgument program;
    private Model model;
    private int calls = ENOUGH_CALLS;

    public static void main(String[] args) {
        ShortTextsTest test = new ShortTextsTest();
        test.all("", ALL, 3, "");
        test.all("lays 1 ", ALL, 3, "");
        test.all("lays 1 ; ", ALL, 3, "");
        test.all("lays 1 ; yields 1 ; drops 0 ", ALL, 3, "");
        test.all("lays 1 ; yields 1 ; drops 0 ; ", ALL, 2, "");
        test.all("lays ( ( ( ", ALL, 2, "");
        test.all("lays 1 ; yields ", OF_AN_E, 4, "; drops 0 ;");
        test.all("lays 2 + point * ", OF_AN_E, 3, "; yields 1 ; drops 0 ;");
        test.all("lays not - ( 3 < ", OF_AN_E, 3, ") ; yields 1 ; drops 0 ;");
        test.all("lays ", OPENING, 7, "1 ; yields");
        CHECKS.end();
    }

    /** All of up to so many TOKENS between these. */
    private void all(String ahead, String[] tokens, int most, String behind) {
        one(ahead + behind);
        for (int i = 0; most > 0 && i < tokens.length; i++) {
            all(ahead + tokens[i] + " ", tokens, most - 1, behind);
        }
    }

    private void one(String text) {
        if (calls >= ENOUGH_CALLS || program.count(3) == 6) {
            begin();
        }
        for (int i = 0; i < text.length(); i++) {
            program.feed(text.charAt(i));
            model.feed(text.charAt(i));
        }
        calls += text.length() + 2;
        int number = program.text();
        CHECKS.due("text " + text, model.text(), number);
        if (number > 0) {
            CHECKS.due("force " + number, model.force(number), program.force(number));
            for (int point = 0; point < 2; point++) {
                for (int what = 1; what < 4; what++) {
                    String call = "asks(0, " + point + ", " + what + ") by " + text;
                    CHECKS.due(call, model.asks(0, point, what), program.asks(0, point, what));
                }
            }
            calls += 7;
        }
    }

    private void begin() {
        program = new LaidByArgument();
        model = new Model();
        program.hen(0, 3);
        model.hen(0, 3);
        program.set(2, 0, 6);
        model.set(2, 0, 6);
        program.against(1, 0, 1);
        model.against(1, 0, 1);
        program.against(2, 1, 1);
        model.against(2, 1, 1);
        calls = 4;
    }
}

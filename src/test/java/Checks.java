/** What the tests share: they say each answer that is not the one that is due, and end with 1 then. */
final class Checks {
    private final String name;
    private String sentence = "";
    private int done;
    private int doneBySentence = 1;
    private int wrong;

    Checks(String name) {
        this.name = name;
    }

    void due(String call, long want, long got) {
        done++;
        doneBySentence++;
        if (got != want) {
            wrong++;
            System.out.println(name + ": " + sentence + call + " answered " + got + ", due is " + want);
        }
    }

    /** The answers from here on are due by this sentence of the document; each sentence has one at least. */
    void by(String words) {
        if (doneBySentence == 0) {
            wrong++;
            System.out.println(name + ": " + sentence + "nothing was asked");
        }
        doneBySentence = 0;
        sentence = "\"" + words + "\": ";
    }

    void end() {
        by("");
        System.out.println(name + ": " + done + " answers, " + wrong + " of them not as due");
        if (wrong != 0 || done == 0) {
            System.exit(1);
        }
    }

    /** All that can be asked of an object without a change: what a refusal must leave as it was. */
    static String stateOf(LaidByArgument x) {
        StringBuilder state = new StringBuilder();
        for (int what = 0; what < 6; what++) {
            state.append(x.count(what)).append(' ').append(x.field(what)).append(' ');
        }
        for (int point = 0; point < 10; point++) {
            state.append(x.told(point, 6)).append(' ').append(x.told(point, 7)).append(' ');
        }
        for (int hen = 0; hen < 5; hen++) {
            for (int what = 0; what < 6; what++) {
                state.append(x.told(hen, what)).append(' ');
            }
        }
        return state.toString();
    }

    static int feedAll(LaidByArgument x, String text) {
        int size = 0;
        for (int i = 0; i < text.length(); i++) {
            size = x.feed(text.charAt(i));
        }
        return size;
    }

    /** What text() answers to this. */
    static int read(LaidByArgument x, String text) {
        feedAll(x, text);
        return x.text();
    }

    /** A TEXT that is THE RULE from now on. */
    static void rule(LaidByArgument x, String text) {
        int number = read(x, text);
        if (number < 0 || x.force(number) < 0) {
            throw new IllegalStateException("no text: " + text);
        }
    }

    static void row(LaidByArgument x, int sheet, int sort, int... items) {
        x.sheet(sheet, sort, items.length);
        for (int i = 0; i < items.length; i++) {
            x.cell(sheet, i, items[i]);
        }
    }
}

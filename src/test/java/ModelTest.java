import java.util.Random;

/** Runs of drawn calls, of which the program and the Model must say the same; the draws are the same each time. */
public final class ModelTest {
    private static final Checks CHECKS = new Checks("ModelTest");
    private static final int[] FAR = {
        Integer.MIN_VALUE, Integer.MIN_VALUE + 1, -15, -2, -1, 41, 64, 161, 256, 1000, 1024, 65536,
        Integer.MAX_VALUE - 1, Integer.MAX_VALUE,
    };
    private static final String[] WORDS = {
        "point", "against", "holds", "number", "day", "eggs", "lays", "yields", "drops", "or", "and", "not",
        "(", ")", ";", "+", "-", "*", "<", "=", "0", "1", "12", "999", "12345", "$", "no", "\n",
    };
    private final Random random;
    private final LaidByArgument program = new LaidByArgument();
    private final Model model = new Model();
    private String call = "";
    /** Calls of the program: no answer is due behind the 512th, and a round takes up to 170. */
    private int calls;
    private static final int ENOUGH_CALLS = 512 - 170;

    private ModelTest(long seed) {
        random = new Random(seed);
    }

    public static void main(String[] args) {
        int runs = args.length > 0 ? Integer.parseInt(args[0]) : 800;
        long first = args.length > 1 ? Long.parseLong(args[1]) : 0;
        for (int run = 0; run < runs; run++) {
            new ModelTest(first + run).run(first + run);
        }
        CHECKS.end();
    }

    private void run(long seed) {
        int hens = random.nextInt(6);
        for (int i = 0; i < hens; i++) {
            call(2);
        }
        int twos = random.nextInt(60);
        for (int i = 0; i < twos; i++) {
            int one = random.nextInt(10);
            int other = random.nextInt(10);
            due("against", model.against(one, other, 1), program.against(one, other, 1), one, other, 1);
        }
        while (calls < ENOUGH_CALLS) {
            int which = random.nextInt(37);
            if (which == 34) {
                type(drawn(4) ? brokenText() : goodText());
            } else if (which > 34) {
                hold();
            } else if (which != 5 && which != 6 || drawn(4)) {
                call(which);
            }
        }
    }

    private void hold() {
        for (int hen = 0; hen < model.count(0); hen++) {
            int bits = random.nextInt(1024) & (drawn(2) ? 1023 : random.nextInt(1024));
            due("set", model.set(2, hen, bits), program.set(2, hen, bits), 2, hen, bits);
        }
        int day = drawn(3) ? 990 + random.nextInt(10) : random.nextInt(100);
        due("set", model.set(0, 0, day), program.set(0, 0, day), 0, 0, day);
    }

    private boolean drawn(int in) {
        return random.nextInt(in) == 0;
    }

    /** Mostly one of 0 .. most; at times one beside it or far from it. */
    private int v(int most) {
        if (drawn(60)) {
            return drawn(2) ? FAR[random.nextInt(FAR.length)] : drawn(2) ? most + 1 : -1;
        }
        return random.nextInt(most + 1);
    }

    private int hen() {
        return model.count(0) == 0 ? v(4) : v(model.count(0) - 1);
    }

    private int sheet() {
        return v(3);
    }

    private int item() {
        switch (random.nextInt(8)) {
            case 0:
                return random.nextInt();
            case 1:
                return random.nextInt(120);
            case 2:
                return 256 * random.nextInt(300) + random.nextInt(10);
            default:
                return random.nextInt(10);
        }
    }

    private void due(String name, long want, long got, int... arguments) {
        StringBuilder said = new StringBuilder(name).append('(');
        for (int argument : arguments) {
            said.append(argument).append(' ');
        }
        call = said.append(')').toString();
        calls++;
        CHECKS.due("call " + calls + ": " + call, want, got);
    }

    private void type(String text) {
        if (model.count(4) > 0 && !drawn(10)) {
            due("text", model.text(), program.text());
        }
        for (int i = 0; i < text.length() && i < 161; i++) {
            int letter = text.charAt(i);
            due("feed", model.feed(letter), program.feed(letter), letter);
        }
        due("text", model.text(), program.text());
        if (drawn(2)) {
            int last = model.count(3) - 1;
            due("force", model.force(last), program.force(last), last);
        }
    }

    private String goodText() {
        return "lays" + blank(true) + either(0) + ";" + blank(false) + "yields" + blank(true) + either(0)
            + ";drops " + either(0) + ";" + blank(false);
    }

    private String blank(boolean needed) {
        return drawn(4) ? "\n " : needed || drawn(3) ? " " : "";
    }

    private String either(int deep) {
        return both(deep) + (drawn(8) ? " or " + both(deep) : "");
    }

    private String both(int deep) {
        return truth(deep) + (drawn(8) ? " and " + truth(deep) : "");
    }

    private String truth(int deep) {
        if (drawn(10)) {
            return "not " + truth(deep + 1);
        }
        return sum(deep) + (drawn(4) ? (drawn(3) ? "=" : "<") + sum(deep) : "");
    }

    private String sum(int deep) {
        return term(deep) + (drawn(4) ? (drawn(2) ? "+" : "-") + term(deep) : "");
    }

    private String term(int deep) {
        return one(deep) + (drawn(4) ? "*" + one(deep) : "");
    }

    private String one(int deep) {
        switch (random.nextInt(deep > 3 ? 6 : 10)) {
            case 0: case 1: case 2: case 3:
                return WORDS[random.nextInt(6)];
            case 4: case 5:
                return "" + (drawn(4) ? random.nextInt(10000) : random.nextInt(10));
            case 6: case 7:
                return "-" + one(deep + 1);
            default:
                return "(" + either(deep + 1) + ")";
        }
    }

    private String brokenText() {
        StringBuilder text = new StringBuilder(goodText());
        for (int k = random.nextInt(3); k >= 0; k--) {
            int at = random.nextInt(text.length());
            switch (random.nextInt(3)) {
                case 0:
                    text.deleteCharAt(at);
                    break;
                case 1:
                    text.insert(at, " " + WORDS[random.nextInt(WORDS.length)] + " ");
                    break;
                default:
                    text.setCharAt(at, (char) random.nextInt(256));
            }
        }
        return text.toString();
    }

    private void call(int which) {
        if (which < 17) {
            callOfFirst(which);
        } else {
            callOfLast(which);
        }
    }

    private void callOfFirst(int which) {
        int hen = hen();
        int point = v(9);
        int what = v(3);
        int sheet = sheet();
        int n;
        switch (which) {
            case 0:
                n = v(9);
                what = v(1);
                due("against", model.against(point, n, what), program.against(point, n, what), point, n, what);
                break;
            case 1:
                n = what < 0 || what > 3 ? 0 : v(new int[] {999, 9, 1023, 999}[what]);
                due("set", model.set(what, hen, n), program.set(what, hen, n), what, hen, n);
                break;
            case 2:
                n = v(5);
                due("hen", model.hen(n, point), program.hen(n, point), n, point);
                break;
            case 3:
                what = v(7);
                n = what > 5 ? point : hen;
                due("told", model.told(n, what), program.told(n, what), n, what);
                break;
            case 4:
                due("asks", model.asks(hen, point, what), program.asks(hen, point, what), hen, point, what);
                break;
            case 5:
                n = v(255);
                due("feed", model.feed(n), program.feed(n), n);
                break;
            case 6:
                due("text", model.text(), program.text());
                break;
            case 7:
                n = v(model.count(3));
                due("force", model.force(n), program.force(n), n);
                break;
            case 8:
                due("argue", model.argue(hen, point), program.argue(hen, point), hen, point);
                break;
            case 9:
                due("night", model.night(), program.night());
                break;
            case 10:
                row(sheet, v(20), true);
                due("morning", model.morning(sheet, hen, what), program.morning(sheet, hen, what), sheet, hen, what);
                break;
            case 11:
                due("teach", model.teach(sheet, hen), program.teach(sheet, hen), sheet, hen);
                break;
            case 12:
                n = v(30);
                what = v(1);
                due("nights", model.nights(hen, point, n, what), program.nights(hen, point, n, what), hen, point, n, what);
                break;
            case 13:
                what = v(5);
                due("field", model.field(what), program.field(what), what);
                break;
            case 14:
                n = v(1023);
                what = v(2);
                due("sets", model.sets(n, what), program.sets(n, what), n, what);
                break;
            case 15:
                what = v(1);
                due("share", model.share(what), program.share(what), what);
                break;
            default:
                due("best", model.best(hen, what), program.best(hen, what), hen, what);
        }
    }

    /** A sheet that tells ARGUMENTS, or how much one would lay, but for one at times. */
    private void row(int sheet, int n, boolean ofPoints) {
        if (sheet < 0 || sheet > 3 || n < 0 || n > 40 || drawn(4)) {
            return;
        }
        int hen = hen();
        int sort = random.nextInt(3);
        due("sheet", model.sheet(sheet, sort, n), program.sheet(sheet, sort, n), sheet, sort, n);
        for (int i = 0; i < n; i++) {
            int item = ofPoints ? random.nextInt(10) : Math.max(0, model.asks(hen, i, 1));
            item = drawn(80) ? item() : item;
            due("cell", model.cell(sheet, i, item), program.cell(sheet, i, item), sheet, i, item);
        }
    }

    private void callOfLast(int which) {
        int hen = hen();
        int point = v(9);
        int what = v(1);
        int sheet = sheet();
        int n = v(3);
        int seed = drawn(3) ? FAR[random.nextInt(FAR.length)] : random.nextInt();
        switch (which) {
            case 17:
                due("three", model.three(hen, n, what), program.three(hen, n, what), hen, n, what);
                break;
            case 18:
                due("whom", model.whom(point, what), program.whom(point, what), point, what);
                break;
            case 19:
                due("win", model.win(hen, point), program.win(hen, point), hen, point);
                break;
            case 20:
                n = hen();
                due("agree", model.agree(hen, n), program.agree(hen, n), hen, n);
                break;
            case 21:
                row(sheet, v(11), false);
                what = v(7);
                due("tells", model.tells(sheet, hen, what), program.tells(sheet, hen, what), sheet, hen, what);
                break;
            case 22:
                due("film", model.film(sheet, hen), program.film(sheet, hen), sheet, hen);
                break;
            case 23:
                n = v(60);
                due("drawn", model.drawn(seed, hen, n), program.drawn(seed, hen, n), seed, hen, n);
                break;
            case 24:
                n = v(20);
                int k = drawn(2) ? v(999) : v(40);
                due("chance", model.chance(seed, n, hen, k, what), program.chance(seed, n, hen, k, what), seed, n, hen, k, what);
                break;
            case 25:
                due("image", model.image(), program.image());
                break;
            case 26:
                due("back", model.back(), program.back());
                break;
            case 27:
                what = v(5);
                due("count", model.count(what), program.count(what), what);
                break;
            default:
                callOfHost(which, sheet, hen);
        }
    }

    private void callOfHost(int which, int sheet, int hen) {
        int sort = v(2);
        int n = v(40);
        int other = sheet();
        switch (which) {
            case 28:
                sort = drawn(6) ? -1 : sort;
                due("sheet", model.sheet(sheet, sort, n), program.sheet(sheet, sort, n), sheet, sort, n);
                break;
            case 29: case 30:
                int item = item();
                due("cell", model.cell(sheet, n, item), program.cell(sheet, n, item), sheet, n, item);
                break;
            case 31:
                int i = v(9);
                int j = v(9);
                n = v(9);
                due("copy", model.copy(sheet, i, other, j, n), program.copy(sheet, i, other, j, n), sheet, i, other, j, n);
                break;
            case 32:
                int from = v(9);
                n = v(5);
                due("hens", model.hens(sheet, sort, from, n), program.hens(sheet, sort, from, n), sheet, sort, from, n);
                break;
            default:
                sort = v(5);
                due("taken", model.taken(hen, sort), program.taken(hen, sort), hen, sort);
        }
    }
}

/** Promises 1 to 6. */
public final class ArgumentsAndHensTest {
    private static final Checks CHECKS = new Checks("ArgumentsAndHensTest");
    private static final int[] WRONG = {Integer.MIN_VALUE, -1, 10, Integer.MAX_VALUE};

    public static void main(String[] args) {
        aNewObject();
        againstAnswersWhatWas();
        againstRefuses();
        setAnswersWhatWas();
        setRefuses();
        hensCome();
        toldOfArgumentsAndHens();
        layingOfEachKind();
        yieldingOfEachKind();
        droppingOfEachKind();
        layingStaysInItsBounds();
        asksRefuses();
        CHECKS.end();
    }

    private static void aNewObject() {
        LaidByArgument x = new LaidByArgument();
        int[] counts = {0, 0, 0, 1, 0, 0};
        for (int what = 0; what < 6; what++) {
            CHECKS.due("new: count(" + what + ")", counts[what], x.count(what));
        }
        for (int point = 0; point < 10; point++) {
            CHECKS.due("new: told(" + point + ", 6)", 0, x.told(point, 6));
            CHECKS.due("new: told(" + point + ", 7)", 0, x.told(point, 7));
        }
        CHECKS.due("new: told(0, 0)", 0, x.told(0, 0));
        CHECKS.due("new: told(0, 1)", -2, x.told(0, 1));
        CHECKS.due("new: back()", -3, x.back());
        for (int sheet = 0; sheet < 4; sheet++) {
            CHECKS.due("new: sheets are missing", -11, x.cell(sheet, 0, 0));
        }
        LaidByArgument y = new LaidByArgument();
        x.against(0, 1, 1);
        x.hen(0, 0);
        CHECKS.due("another new object is its own", 0, y.count(0) + y.count(1));
    }

    private static void againstAnswersWhatWas() {
        LaidByArgument x = new LaidByArgument();
        CHECKS.due("against on", 0, x.against(9, 0, 1));
        CHECKS.due("against on again", 1, x.against(9, 0, 1));
        CHECKS.due("the other way is another thing", 0, x.against(0, 9, 0));
        CHECKS.due("what is against 0", 512, x.told(0, 6));
        CHECKS.due("what 9 is against", 1, x.told(9, 7));
        CHECKS.due("nothing is against 9", 0, x.told(9, 6));
        CHECKS.due("0 is against nothing", 0, x.told(0, 7));
        CHECKS.due("against off", 1, x.against(9, 0, 0));
        CHECKS.due("against off again", 0, x.against(9, 0, 0));
        CHECKS.due("off: told", 0, x.told(0, 6) + x.told(9, 7));
        x.against(3, 4, 1);
        x.against(3, 5, 1);
        x.against(6, 4, 1);
        CHECKS.due("3 is against 4 and 5", 48, x.told(3, 7));
        CHECKS.due("3 and 6 are against 4", 72, x.told(4, 6));
        x.against(3, 4, 0);
        CHECKS.due("3 is against 5 still", 32, x.told(3, 7));
        CHECKS.due("6 is against 4 still", 64, x.told(4, 6));
    }

    private static void againstRefuses() {
        LaidByArgument x = new LaidByArgument();
        x.against(2, 3, 1);
        String ahead = Checks.stateOf(x);
        for (int wrong : WRONG) {
            CHECKS.due("against(" + wrong + ", 0, 1)", -2, x.against(wrong, 0, 1));
            CHECKS.due("against(0, " + wrong + ", 1)", -2, x.against(0, wrong, 1));
            CHECKS.due("against(0, 1, " + wrong + ")", -2, x.against(0, 1, wrong));
        }
        CHECKS.due("against(0, 1, 2)", -2, x.against(0, 1, 2));
        for (int point = 0; point < 10; point++) {
            CHECKS.due("one and the same, on", -2, x.against(point, point, 1));
            CHECKS.due("one and the same, off", -2, x.against(point, point, 0));
        }
        CHECKS.due("nothing changed", 1, ahead.equals(Checks.stateOf(x)) ? 1 : 0);
    }

    private static void setAnswersWhatWas() {
        LaidByArgument x = new LaidByArgument();
        CHECKS.due("day without a hen", 0, x.set(0, -77, 999));
        CHECKS.due("day was 999", 999, x.set(0, 77, 0));
        x.hen(0, 4);
        x.hen(3, 5);
        CHECKS.due("number was 4", 4, x.set(1, 0, 9));
        CHECKS.due("number was 9", 9, x.set(1, 0, 0));
        CHECKS.due("number of the other", 5, x.told(1, 1));
        CHECKS.due("held nothing", 0, x.set(2, 1, 1023));
        CHECKS.due("held all", 1023, x.set(2, 1, 5));
        CHECKS.due("holds 5", 5, x.told(1, 2));
        CHECKS.due("the other holds nothing", 0, x.told(0, 2));
        CHECKS.due("eggs were 0", 0, x.set(3, 1, 999));
        CHECKS.due("eggs were 999", 999, x.set(3, 1, 3));
        CHECKS.due("eggs are 3", 3, x.told(1, 3));
    }

    private static void setRefuses() {
        LaidByArgument x = new LaidByArgument();
        x.hen(0, 4);
        x.set(2, 0, 17);
        String ahead = Checks.stateOf(x);
        int[] tooMuch = {1000, 10, 1024, 1000};
        for (int what = 0; what < 4; what++) {
            CHECKS.due("set(" + what + ", 0, too much)", -2, x.set(what, 0, tooMuch[what]));
            CHECKS.due("set(" + what + ", 0, -1)", -2, x.set(what, 0, -1));
            CHECKS.due("set(" + what + ", 0, least)", -2, x.set(what, 0, Integer.MIN_VALUE));
            CHECKS.due("set(" + what + ", 0, most)", -2, x.set(what, 0, Integer.MAX_VALUE));
        }
        for (int what = 1; what < 4; what++) {
            CHECKS.due("set of no such hen", -2, x.set(what, 1, 0));
            CHECKS.due("set of hen -1", -2, x.set(what, -1, 0));
            CHECKS.due("set of hen 5", -2, x.set(what, 5, 0));
        }
        CHECKS.due("set(4, ..)", -2, x.set(4, 0, 0));
        CHECKS.due("set(-1, ..)", -2, x.set(-1, 0, 0));
        CHECKS.due("nothing changed", 1, ahead.equals(Checks.stateOf(x)) ? 1 : 0);
    }

    private static void hensCome() {
        LaidByArgument x = new LaidByArgument();
        CHECKS.due("hen(6, 0)", -2, x.hen(6, 0));
        CHECKS.due("hen(-1, 0)", -2, x.hen(-1, 0));
        CHECKS.due("hen(0, 10)", -2, x.hen(0, 10));
        CHECKS.due("hen(0, -1)", -2, x.hen(0, -1));
        CHECKS.due("none came", 0, x.count(0));
        for (int i = 0; i < 5; i++) {
            CHECKS.due("hen " + i, i, x.hen(5 - i, 9 - i));
            CHECKS.due("her kind", 5 - i, x.told(i, 4));
            CHECKS.due("her number", 9 - i, x.told(i, 1));
            CHECKS.due("she holds nothing", 0, x.told(i, 2));
            CHECKS.due("she has no eggs", 0, x.told(i, 3));
        }
        CHECKS.due("a sixth", -4, x.hen(0, 0));
        CHECKS.due("bad ahead of full", -2, x.hen(6, 0));
        CHECKS.due("bad number ahead of full", -2, x.hen(0, 10));
        CHECKS.due("five", 5, x.count(0));
    }

    private static void toldOfArgumentsAndHens() {
        LaidByArgument x = new LaidByArgument();
        x.hen(5, 3);
        x.set(2, 0, 96);
        x.set(0, 0, 12);
        CHECKS.due("day, of no matter", 12, x.told(Integer.MIN_VALUE, 0));
        CHECKS.due("what a speckled hen drops", 96, x.told(0, 5));
        CHECKS.due("told(0, 8)", -2, x.told(0, 8));
        CHECKS.due("told(0, -1)", -2, x.told(0, -1));
        for (int what = 1; what <= 5; what++) {
            CHECKS.due("told(1, " + what + ")", -2, x.told(1, what));
            CHECKS.due("told(-1, " + what + ")", -2, x.told(-1, what));
        }
        for (int wrong : WRONG) {
            CHECKS.due("told(" + wrong + ", 6)", -2, x.told(wrong, 6));
            CHECKS.due("told(" + wrong + ", 7)", -2, x.told(wrong, 7));
        }
    }

    /** 1 and 2 are AGAINST 0; DAY 4; the rule lays 7 more than OBJECT, by any. */
    private static LaidByArgument farm(int kind, int number, int held) {
        LaidByArgument x = new LaidByArgument();
        Checks.rule(x, "lays against + 7; yields 1; drops point = 3;");
        x.against(1, 0, 1);
        x.against(2, 0, 1);
        x.set(0, 0, 4);
        x.hen(kind, number);
        x.set(2, 0, held);
        return x;
    }

    private static void layingOfEachKind() {
        // By nothing held, by one that objects, by two, by two and itself.
        int[] held = {0, 2, 6, 7};
        int[][] lays = {{0, 8, 9, 9}, {0, 16, 18, 18}, {0, 8, 9, 9}, {0, 16, 18, 23}, {0, 4, 4, 4}, {1, 0, 0, 0}};
        int[] objecting = {0, 1, 2, 2};
        for (int kind = 0; kind < 6; kind++) {
            for (int i = 0; i < 4; i++) {
                LaidByArgument x = farm(kind, 5, held[i]);
                CHECKS.due("kind " + kind + ", held " + held[i] + ": objects", objecting[i], x.asks(0, 0, 0));
                CHECKS.due("kind " + kind + ", held " + held[i] + ": lays", lays[kind][i], x.asks(0, 0, 1));
                x.set(0, 0, 6);
                boolean broody = kind == 2 || kind == 4;
                CHECKS.due("kind " + kind + ", day 6: lays", broody ? 0 : lays[kind][i], x.asks(0, 0, 1));
                x.set(0, 0, 8);
                CHECKS.due("kind " + kind + ", day 8: lays", lays[kind][i], x.asks(0, 0, 1));
            }
        }
        LaidByArgument old = farm(3, 5, 1);
        CHECKS.due("an old hen lays her number by what she holds, though none objects", 5, old.asks(0, 0, 1));
        LaidByArgument less = farm(4, 5, 2);
        Checks.rule(less, "lays 3; yields 1; drops 0;");
        CHECKS.due("a college hen lays less than four", 3, less.asks(0, 0, 1));
    }

    private static void yieldingOfEachKind() {
        int[] held = {0, 2, 6, 512};
        int[][] byYes = {{1, 1, 1, 1}, {1, 1, 1, 1}, {1, 1, 0, 1}, {1, 1, 1, 1}, {1, 1, 0, 1}, {0, 0, 0, 0}};
        int[][] byNo = {{0, 0, 0, 0}, {1, 1, 1, 1}, {0, 0, 0, 0}, {1, 1, 1, 1}, {1, 0, 0, 0}, {0, 0, 0, 0}};
        for (int kind = 0; kind < 6; kind++) {
            for (int i = 0; i < 4; i++) {
                LaidByArgument x = farm(kind, 5, held[i]);
                Checks.rule(x, "lays 1; yields 0-2; drops 0;");
                CHECKS.due("kind " + kind + ", held " + held[i] + ": yields", byYes[kind][i], x.asks(0, 0, 2));
                Checks.rule(x, "lays 1; yields 0; drops 0;");
                CHECKS.due("kind " + kind + ", held " + held[i] + ": does not", byNo[kind][i], x.asks(0, 0, 2));
            }
        }
        CHECKS.due("an old hen of an even number never yields", 0, farm(3, 4, 0).asks(0, 0, 2));
    }

    private static void droppingOfEachKind() {
        int[] three = {1, 1, 0, 1, 0, 0};
        int[] five = {0, 0, 0, 0, 1, 1};
        int[] told = {8, 8, 0, 8, 32, 33};
        for (int kind = 0; kind < 6; kind++) {
            LaidByArgument x = farm(kind, 5, 41);
            CHECKS.due("kind " + kind + " drops 3", three[kind], x.asks(0, 3, 3));
            CHECKS.due("kind " + kind + " drops 5", five[kind], x.asks(0, 5, 3));
            CHECKS.due("kind " + kind + " drops", told[kind], x.told(0, 5));
        }
        LaidByArgument x = farm(0, 5, 0);
        CHECKS.due("did she hold 3, she would drop it", 1, x.asks(0, 3, 3));
        CHECKS.due("she drops none of what she does not hold", 0, x.told(0, 5));
        Checks.rule(x, "lays 0; yields 0; drops holds = 0;");
        CHECKS.due("as things are now, though she holds nothing", 1, x.asks(0, 3, 3));
        LaidByArgument college = farm(4, 5, 0);
        CHECKS.due("a college hen, did she hold it", 1, college.asks(0, 5, 3));
        CHECKS.due("a college hen drops nothing that she does not hold", 0, college.told(0, 5));
    }

    private static void layingStaysInItsBounds() {
        LaidByArgument x = farm(0, 9, 6);
        x.hen(1, 9);
        x.hen(3, 9);
        x.set(2, 1, 6);
        x.set(2, 2, 7);
        Checks.rule(x, "lays 100; yields 1; drops 0;");
        CHECKS.due("a hen's most", 99, x.asks(0, 0, 1));
        CHECKS.due("a pullet's most", 99, x.asks(1, 0, 1));
        CHECKS.due("an old hen's most", 99, x.asks(2, 0, 1));
        Checks.rule(x, "lays -5; yields 1; drops 0;");
        CHECKS.due("a hen's least", 0, x.asks(0, 0, 1));
        CHECKS.due("a pullet's least: what the text tells is bounded ahead", 0, x.asks(1, 0, 1));
        CHECKS.due("an old hen's number more than the least", 9, x.asks(2, 0, 1));
        Checks.rule(x, "lays 47; yields 1; drops 0;");
        CHECKS.due("a hen", 47, x.asks(0, 0, 1));
        CHECKS.due("a pullet", 94, x.asks(1, 0, 1));
        CHECKS.due("an old hen, bounded as it comes out", 99, x.asks(2, 0, 1));
        Checks.rule(x, "lays 9999*9999*9999; yields 1; drops 0;");
        CHECKS.due("an int wraps below 0", 9999 * 9999 * 9999 < 0 ? 0 : 99, x.asks(0, 0, 1));
    }

    private static void asksRefuses() {
        LaidByArgument x = farm(0, 5, 6);
        CHECKS.due("asks(1, 0, 0)", -2, x.asks(1, 0, 0));
        CHECKS.due("asks(0, 0, 4)", -2, x.asks(0, 0, 4));
        CHECKS.due("asks(0, 0, -1)", -2, x.asks(0, 0, -1));
        for (int wrong : WRONG) {
            CHECKS.due("asks(" + wrong + ", 0, 0)", -2, x.asks(wrong, 0, 0));
            CHECKS.due("asks(0, " + wrong + ", 0)", -2, x.asks(0, wrong, 0));
        }
    }
}

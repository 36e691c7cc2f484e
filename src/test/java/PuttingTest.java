/** Promises 10 to 14: putting, nights, mornings. */
public final class PuttingTest {
    private static final Checks CHECKS = new Checks("PuttingTest");
    private static final int[] WRONG = {Integer.MIN_VALUE, -1, 10, Integer.MAX_VALUE};

    public static void main(String[] args) {
        arguePersuades();
        argueWithoutYielding();
        allIsToldAheadOfPutting();
        eggsHaveABound();
        argueRefuses();
        aNight();
        aNightOfNoHens();
        theLastDay();
        aMorningInThought();
        aMorningRefuses();
        teaching();
        teachingRefuses();
        nightsInThought();
        nightsGoBehindTheLastDay();
        nightsRefuse();
        CHECKS.end();
    }

    /** 0 against 1, 1 against 2, 2 against 0; 1 and 5 against 6. */
    private static LaidByArgument farm() {
        LaidByArgument x = new LaidByArgument();
        x.against(0, 1, 1);
        x.against(1, 2, 1);
        x.against(2, 0, 1);
        x.against(1, 6, 1);
        x.against(5, 6, 1);
        return x;
    }

    private static void arguePersuades() {
        LaidByArgument x = farm();
        x.hen(0, 0);
        x.hen(0, 0);
        x.set(2, 0, 1);
        CHECKS.due("nothing objects", 0, x.argue(0, 5));
        CHECKS.due("she holds 0 and 5", 33, x.told(0, 2));
        CHECKS.due("0 objects to 1", 1, x.argue(0, 1));
        CHECKS.due("she holds 0, 1, 5: 1 is not against 0", 35, x.told(0, 2));
        CHECKS.due("1 and 5 object to 6", 2, x.argue(0, 6));
        CHECKS.due("she holds it too", 99, x.told(0, 2));
        CHECKS.due("1 objects to 2", 1, x.argue(0, 2));
        CHECKS.due("2 is against 0", 102, x.told(0, 2));
        CHECKS.due("nothing objects to 0 but 2", 1, x.argue(0, 0));
        CHECKS.due("0 is against 1", 101, x.told(0, 2));
        CHECKS.due("again: 2 objects still", 1, x.argue(0, 0));
        CHECKS.due("eggs", 6, x.told(0, 3));
        CHECKS.due("the other holds nothing", 0, x.told(1, 2));
        CHECKS.due("day", 0, x.told(0, 0));
    }

    private static void argueWithoutYielding() {
        LaidByArgument x = farm();
        Checks.rule(x, "lays 5; yields 0; drops 0;");
        x.hen(0, 0);
        x.set(2, 0, 3);
        CHECKS.due("she lays", 5, x.argue(0, 1));
        CHECKS.due("and holds what she held", 3, x.told(0, 2));
        CHECKS.due("eggs", 5, x.told(0, 3));
        CHECKS.due("by 0 none objects, and she does not yield", 0, x.argue(0, 0));
        CHECKS.due("she holds 1 still, though 0 is against it", 3, x.told(0, 2));
    }

    private static void allIsToldAheadOfPutting() {
        LaidByArgument x = farm();
        Checks.rule(x, "lays eggs+1; yields eggs = 0 and holds = 1; drops 0;");
        x.hen(0, 0);
        x.set(2, 0, 1);
        CHECKS.due("lays by the eggs ahead", 1, x.argue(0, 1));
        CHECKS.due("yields by the eggs and what is held ahead", 3, x.told(0, 2));
        CHECKS.due("the next is by the eggs then", 2, x.argue(0, 1));
    }

    private static void eggsHaveABound() {
        LaidByArgument x = farm();
        Checks.rule(x, "lays 90; yields 1; drops 0;");
        x.hen(0, 0);
        x.set(2, 0, 1);
        x.set(3, 0, 908);
        CHECKS.due("lays", 90, x.argue(0, 1));
        CHECKS.due("eggs", 998, x.told(0, 3));
        CHECKS.due("lays as much", 90, x.argue(0, 1));
        CHECKS.due("eggs at most", 999, x.told(0, 3));
        CHECKS.due("eggs of all", 999, x.count(2));
    }

    private static void argueRefuses() {
        CHECKS.due("nobody", -2, farm().argue(0, 0));
        LaidByArgument x = farm();
        x.hen(0, 0);
        x.set(2, 0, 1);
        String ahead = Checks.stateOf(x);
        CHECKS.due("argue(1, 0)", -2, x.argue(1, 0));
        for (int wrong : WRONG) {
            CHECKS.due("argue(" + wrong + ", 0)", -2, x.argue(wrong, 0));
            CHECKS.due("argue(0, " + wrong + ")", -2, x.argue(0, wrong));
        }
        CHECKS.due("nothing changed", 1, ahead.equals(Checks.stateOf(x)) ? 1 : 0);
    }

    private static void aNight() {
        LaidByArgument x = farm();
        Checks.rule(x, "lays 1; yields 1; drops holds = 3 and point < 9;");
        x.hen(0, 0);
        x.hen(2, 0);
        x.hen(4, 1);
        x.hen(5, 0);
        x.set(2, 0, 519);
        x.set(2, 1, 7);
        x.set(2, 2, 3);
        x.set(2, 3, 7);
        x.set(0, 0, 5);
        // The first has four, so she drops none; the fourth would drop if not yes.
        CHECKS.due("held of all", 4 + 3 + 1 + 3, x.night());
        CHECKS.due("the first", 519, x.told(0, 2));
        CHECKS.due("the broody one", 7, x.told(1, 2));
        CHECKS.due("the college one", 1, x.told(2, 2));
        CHECKS.due("the speckled one", 7, x.told(3, 2));
        CHECKS.due("day", 6, x.told(0, 0));
        x.set(2, 0, 515);
        x.set(2, 3, 3);
        CHECKS.due("told ahead: all below 9 go by the three that were held", 1 + 3 + 1 + 0, x.night());
        CHECKS.due("the first", 512, x.told(0, 2));
        CHECKS.due("the speckled one", 0, x.told(3, 2));
        CHECKS.due("eggs by nights", 0, x.count(2));
    }

    private static void aNightOfNoHens() {
        LaidByArgument x = new LaidByArgument();
        CHECKS.due("held of none", 0, x.night());
        CHECKS.due("day", 1, x.told(0, 0));
    }

    private static void theLastDay() {
        LaidByArgument x = farm();
        Checks.rule(x, "lays 1; yields 1; drops 1;");
        x.hen(0, 0);
        x.set(2, 0, 3);
        x.set(0, 0, 999);
        String ahead = Checks.stateOf(x);
        CHECKS.due("day is 999", -3, x.night());
        CHECKS.due("nothing changed", 1, ahead.equals(Checks.stateOf(x)) ? 1 : 0);
        x.set(0, 0, 998);
        CHECKS.due("day is 998", 0, x.night());
        CHECKS.due("day", 999, x.told(0, 0));
        CHECKS.due("she dropped", 0, x.told(0, 2));
    }

    private static void aMorningInThought() {
        LaidByArgument x = farm();
        Checks.rule(x, "lays against+eggs; yields eggs < 4; drops 0;");
        x.hen(0, 0);
        x.set(2, 0, 32);
        Checks.row(x, 0, 2, 0, 1, 6, 2, 6, 3);
        // 0: 0 laid, holds 0 and 5. 1: 1 laid, 0 1 5. 6: 2+1 laid, 0 1 5 6. 2: 1+4 laid and no more yields.
        // 6: 2+9 laid. 3: none objects.
        String ahead = Checks.stateOf(x);
        CHECKS.due("laid", 0 + 1 + 3 + 5 + 11 + 0, x.morning(0, 0, 0));
        CHECKS.due("held", 1 + 2 + 32 + 64, x.morning(0, 0, 1));
        CHECKS.due("laid nothing by", 2, x.morning(0, 0, 2));
        CHECKS.due("yields by", 3, x.morning(0, 0, 3));
        CHECKS.due("only in thought", 1, ahead.equals(Checks.stateOf(x)) ? 1 : 0);
        x.sheet(1, 1, 0);
        CHECKS.due("of none: laid", 0, x.morning(1, 0, 0));
        CHECKS.due("of none: held", 32, x.morning(1, 0, 1));
        CHECKS.due("of none: nothing", 0, x.morning(1, 0, 2));
        CHECKS.due("of none: yields", 0, x.morning(1, 0, 3));
        x.sheet(1, 1, 40);
        CHECKS.due("of forty: nothing", 40, x.morning(1, 0, 2));
        Checks.rule(x, "lays eggs - 990; yields 1; drops 0;");
        x.set(3, 0, 995);
        Checks.row(x, 1, 1, 6, 6, 6);
        CHECKS.due("eggs have their bound in thought", 5 + 9 + 9, x.morning(1, 0, 0));
    }

    private static void aMorningRefuses() {
        LaidByArgument x = farm();
        x.hen(0, 0);
        Checks.row(x, 0, 2, 0, 10);
        Checks.row(x, 1, 2, -1);
        CHECKS.due("no such sheet", -2, x.morning(4, 0, 0));
        CHECKS.due("sheet -1", -2, x.morning(-1, 0, 0));
        CHECKS.due("no such hen", -2, x.morning(2, 1, 0));
        CHECKS.due("hen -1", -2, x.morning(2, -1, 0));
        CHECKS.due("what 4", -2, x.morning(2, 0, 4));
        CHECKS.due("what -1", -2, x.morning(2, 0, -1));
        CHECKS.due("a missing one", -11, x.morning(2, 0, 0));
        for (int what = 0; what < 4; what++) {
            CHECKS.due("10 is no argument", -2, x.morning(0, 0, what));
            CHECKS.due("-1 is no argument", -2, x.morning(1, 0, what));
        }
        x.sheet(0, -1, 0);
        CHECKS.due("missing again", -11, x.morning(0, 0, 0));
    }

    private static void teaching() {
        LaidByArgument x = farm();
        Checks.rule(x, "lays against+eggs; yields eggs < 4; drops 0;");
        x.hen(0, 0);
        x.hen(0, 0);
        x.set(2, 0, 32);
        Checks.row(x, 3, 0, 0, 1, 6, 2, 6, 3);
        CHECKS.due("laid", 20, x.teach(3, 0));
        CHECKS.due("held", 99, x.told(0, 2));
        CHECKS.due("eggs", 20, x.told(0, 3));
        CHECKS.due("the other's eggs", 0, x.told(1, 3));
        CHECKS.due("day", 0, x.told(0, 0));
        x.sheet(3, 0, 0);
        CHECKS.due("of none", 0, x.teach(3, 0));
        Checks.row(x, 3, 0, 5, 8);
        CHECKS.due("by two that none objects to", 0, x.teach(3, 1));
        CHECKS.due("she holds these", 288, x.told(1, 2));
        CHECKS.due("in thought she yields to both", 2, x.morning(3, 1, 3));
        Checks.row(x, 3, 0, 5);
        CHECKS.due("or to one alone", 1, x.morning(3, 1, 3));
    }

    private static void teachingRefuses() {
        LaidByArgument x = farm();
        x.hen(0, 0);
        x.set(2, 0, 32);
        Checks.row(x, 0, 2, 6, 0, 10);
        String ahead = Checks.stateOf(x);
        CHECKS.due("no such sheet", -2, x.teach(4, 0));
        CHECKS.due("sheet -1", -2, x.teach(-1, 0));
        CHECKS.due("no such hen", -2, x.teach(1, 1));
        CHECKS.due("hen -1", -2, x.teach(0, -1));
        CHECKS.due("a missing one", -11, x.teach(1, 0));
        CHECKS.due("10 is no argument", -2, x.teach(0, 0));
        CHECKS.due("nothing changed, by those ahead of it either", 1, ahead.equals(Checks.stateOf(x)) ? 1 : 0);
    }

    private static void nightsInThought() {
        LaidByArgument x = farm();
        Checks.rule(x, "lays against+day; yields 1; drops day = 3 and point = 6;");
        x.hen(0, 0);
        x.hen(0, 0);
        x.set(2, 0, 34);
        x.set(2, 1, 34);
        x.set(0, 0, 2);
        String ahead = Checks.stateOf(x);
        CHECKS.due("no night: held", 34, x.nights(0, 6, 0, 0));
        CHECKS.due("no night: laid", 0, x.nights(0, 6, 0, 1));
        CHECKS.due("one: held", 98, x.nights(0, 6, 1, 0));
        CHECKS.due("one: laid", 4, x.nights(0, 6, 1, 1));
        CHECKS.due("two: dropped on day 3", 34, x.nights(0, 6, 2, 0));
        CHECKS.due("two: laid", 4 + 5, x.nights(0, 6, 2, 1));
        CHECKS.due("three: held", 98, x.nights(0, 6, 3, 0));
        CHECKS.due("three: laid", 4 + 5 + 6, x.nights(0, 6, 3, 1));
        int sum = 0;
        for (int k = 0; k < 30; k++) {
            sum += 4 + k;
        }
        CHECKS.due("thirty: laid", sum, x.nights(0, 6, 30, 1));
        CHECKS.due("only in thought", 1, ahead.equals(Checks.stateOf(x)) ? 1 : 0);
    }

    private static void nightsGoBehindTheLastDay() {
        LaidByArgument x = farm();
        Checks.rule(x, "lays day - 990; yields 1; drops 0;");
        x.hen(0, 0);
        x.set(2, 0, 2);
        x.set(0, 0, 998);
        CHECKS.due("laid on days 998 to 1001", 8 + 9 + 10 + 11, x.nights(0, 6, 4, 1));
        CHECKS.due("day", 998, x.told(0, 0));
        Checks.rule(x, "lays eggs - 990; yields 1; drops 0;");
        x.set(3, 0, 995);
        CHECKS.due("eggs have their bound in thought", 5 + 9 + 9, x.nights(0, 6, 3, 1));
    }

    private static void nightsRefuse() {
        LaidByArgument x = farm();
        x.hen(0, 0);
        CHECKS.due("n 31", -2, x.nights(0, 0, 31, 0));
        CHECKS.due("n -1", -2, x.nights(0, 0, -1, 0));
        CHECKS.due("what 2", -2, x.nights(0, 0, 0, 2));
        CHECKS.due("what -1", -2, x.nights(0, 0, 0, -1));
        CHECKS.due("no such hen", -2, x.nights(1, 0, 0, 0));
        for (int wrong : WRONG) {
            CHECKS.due("nights(" + wrong + ", 0, 0, 0)", -2, x.nights(wrong, 0, 0, 0));
            CHECKS.due("nights(0, " + wrong + ", 0, 0)", -2, x.nights(0, wrong, 0, 0));
        }
    }
}

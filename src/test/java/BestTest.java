/** Promises 18 to 22: what would be best. */
public final class BestTest {
    private static final Checks CHECKS = new Checks("BestTest");
    private static final int[] WRONG = {Integer.MIN_VALUE, -1, 10, Integer.MAX_VALUE};

    public static void main(String[] args) {
        theBestOne();
        theNearest();
        bestRefuses();
        theBestThree();
        threeByWhatEachChanges();
        threeRefuses();
        toWhom();
        winning();
        winningByThree();
        agreeing();
        CHECKS.end();
    }

    private static void theBestOne() {
        LaidByArgument x = new LaidByArgument();
        x.hen(0, 0);
        CHECKS.due("of like ones the first", 0, x.best(0, 0));
        CHECKS.due("how much", 0, x.best(0, 1));
        x.against(0, 4, 1);
        x.against(0, 7, 1);
        x.against(1, 7, 1);
        x.against(0, 8, 1);
        x.against(1, 8, 1);
        x.set(2, 0, 3);
        CHECKS.due("best", 7, x.best(0, 0));
        CHECKS.due("lays by it", 2, x.best(0, 1));
        x.set(2, 0, 1);
        CHECKS.due("best by one", 4, x.best(0, 0));
        CHECKS.due("lays by it", 1, x.best(0, 1));
        CHECKS.due("only thought of", 1, x.told(0, 2));
        x.hen(5, 0);
        x.set(2, 1, 1);
        CHECKS.due("a speckled hen's best", 0, x.best(1, 0));
        CHECKS.due("lays by it", 1, x.best(1, 1));
    }

    private static void theNearest() {
        LaidByArgument x = new LaidByArgument();
        x.hen(0, 0);
        CHECKS.due("nearest of none", -1, x.best(0, 2));
        CHECKS.due("how near", -1, x.best(0, 3));
        x.hen(0, 0);
        x.set(2, 0, 1023);
        CHECKS.due("nearest of one, who agrees in nothing", 1, x.best(0, 2));
        CHECKS.due("how near", 0, x.best(0, 3));
        x.hen(0, 0);
        x.hen(0, 0);
        x.set(2, 2, 7);
        x.set(2, 3, 56);
        CHECKS.due("of like ones the first", 2, x.best(0, 2));
        CHECKS.due("how near", 3, x.best(0, 3));
        CHECKS.due("of the last one", 1, x.best(3, 2));
        CHECKS.due("how near", 7, x.best(3, 3));
        x.set(2, 3, 57);
        CHECKS.due("of the second one", 2, x.best(1, 2));
        x.set(2, 1, 1022);
        CHECKS.due("the first one is near too", 0, x.best(1, 2));
        CHECKS.due("how near", 9, x.best(1, 3));
        x.set(2, 1, 0);
        CHECKS.due("one nearer", 3, x.best(0, 2));
        CHECKS.due("how near", 4, x.best(0, 3));
    }

    private static void bestRefuses() {
        LaidByArgument x = new LaidByArgument();
        CHECKS.due("no hens", -2, x.best(0, 0));
        x.hen(0, 0);
        CHECKS.due("what 4", -2, x.best(0, 4));
        CHECKS.due("what -1", -2, x.best(0, -1));
        for (int wrong : WRONG) {
            CHECKS.due("best(" + wrong + ", 0)", -2, x.best(wrong, 0));
        }
    }

    private static void theBestThree() {
        LaidByArgument x = new LaidByArgument();
        x.hen(0, 0);
        int[] first = {0, 1, 12, 133};
        for (int n = 0; n <= 3; n++) {
            CHECKS.due("of like ones the first, n " + n, first[n], x.three(0, n, 0));
            CHECKS.due("laid, n " + n, 0, x.three(0, n, 1));
        }
        // Only 9 lays anything, ever.
        x.against(0, 9, 1);
        x.set(2, 0, 1);
        int[] best = {0, 10, 120, 1330};
        for (int n = 0; n <= 3; n++) {
            CHECKS.due("9 alone, n " + n, best[n], x.three(0, n, 0));
            CHECKS.due("laid, n " + n, n, x.three(0, n, 1));
        }
        CHECKS.due("only thought of", 1, x.told(0, 2));
        CHECKS.due("no eggs", 0, x.told(0, 3));
    }

    private static void threeByWhatEachChanges() {
        LaidByArgument x = new LaidByArgument();
        // By 3 she lays nothing, but holds it, and 3, 4, 5 are against 6; 6 is against 3.
        x.against(3, 6, 1);
        x.against(4, 6, 1);
        x.against(5, 6, 1);
        x.against(6, 3, 1);
        x.against(7, 8, 1);
        x.hen(0, 0);
        x.set(2, 0, 128);
        // Of two: 8 8 (2); 3 6 (1); 6 3 (1).
        CHECKS.due("of one", 9, x.three(0, 1, 0));
        CHECKS.due("of two", 11 * 9 + 9, x.three(0, 2, 0));
        CHECKS.due("of two: laid", 2, x.three(0, 2, 1));
        // Of three: 8 8 8 (3) is the most, and the first such.
        CHECKS.due("of three", (11 * 9 + 9) * 11 + 9, x.three(0, 3, 0));
        x.set(2, 0, 16);
        // 3 6 3 is 0 + 2 + 1, for 6 is against 3; 5 stays, so 5 6 6 is 0 + 2 + 2.
        CHECKS.due("5, 6, 6: laid", 4, x.three(0, 3, 1));
        CHECKS.due("5, 6, 6", (6 * 11 + 7) * 11 + 7, x.three(0, 3, 0));
        Checks.rule(x, "lays 10*eggs + 1; yields 0; drops 0;");
        x.set(2, 0, 8);
        CHECKS.due("by eggs that come: 1, 11, 99", 111, x.three(0, 3, 1));
        CHECKS.due("6, 6, 6", 7 * 133, x.three(0, 3, 0));
        CHECKS.due("6, 6", 7 * 12, x.three(0, 2, 0));
        CHECKS.due("again, after the longer ones", 12, x.three(0, 2, 1));
        x.set(3, 0, 2);
        CHECKS.due("by the eggs that she has", 21, x.three(0, 1, 1));
        threeThatEndsWithTheFirst();
    }

    private static void threeThatEndsWithTheFirst() {
        LaidByArgument x = new LaidByArgument();
        x.hen(0, 0);
        x.against(9, 0, 1);
        x.against(8, 9, 1);
        x.against(7, 9, 1);
        x.against(0, 8, 1);
        x.against(0, 7, 1);
        CHECKS.due("of two: 7, 8: nothing; 7, 9: 1; 9, 0: 1", 1, x.three(0, 2, 1));
        CHECKS.due("the first of them", 11 * 1 + 8, x.three(0, 2, 0));
        x.against(0, 7, 0);
        x.against(0, 8, 0);
        x.against(7, 9, 0);
        x.against(8, 9, 0);
        CHECKS.due("9, 0 alone", 11 * 10 + 1, x.three(0, 2, 0));
        CHECKS.due("of three", (11 * 10 + 1) * 11 + 1, x.three(0, 3, 0));
        CHECKS.due("of three: laid", 2, x.three(0, 3, 1));
    }

    private static void threeRefuses() {
        LaidByArgument x = new LaidByArgument();
        x.hen(0, 0);
        CHECKS.due("n 4", -2, x.three(0, 4, 0));
        CHECKS.due("n -1", -2, x.three(0, -1, 0));
        CHECKS.due("what 2", -2, x.three(0, 0, 2));
        CHECKS.due("what -1", -2, x.three(0, 0, -1));
        CHECKS.due("no such hen", -2, x.three(1, 0, 0));
        for (int wrong : WRONG) {
            CHECKS.due("three(" + wrong + ", 0, 0)", -2, x.three(wrong, 0, 0));
        }
    }

    private static void toWhom() {
        LaidByArgument x = new LaidByArgument();
        CHECKS.due("nobody", -1, x.whom(0, 0));
        CHECKS.due("nothing", -1, x.whom(9, 1));
        x.hen(0, 0);
        x.hen(0, 0);
        x.hen(1, 0);
        x.hen(1, 0);
        CHECKS.due("of like ones the first", 0, x.whom(3, 0));
        CHECKS.due("how much", 0, x.whom(3, 1));
        x.against(1, 3, 1);
        x.set(2, 1, 2);
        CHECKS.due("the second", 1, x.whom(3, 0));
        CHECKS.due("how much", 1, x.whom(3, 1));
        x.set(2, 3, 2);
        CHECKS.due("the fourth", 3, x.whom(3, 0));
        CHECKS.due("how much", 2, x.whom(3, 1));
        x.set(2, 2, 2);
        CHECKS.due("the third", 2, x.whom(3, 0));
        CHECKS.due("how much", 2, x.whom(3, 1));
        for (int wrong : WRONG) {
            CHECKS.due("whom(" + wrong + ", 0)", -2, x.whom(wrong, 0));
            CHECKS.due("whom(0, " + wrong + ")", -2, x.whom(0, wrong));
        }
        CHECKS.due("whom(0, 2)", -2, x.whom(0, 2));
        CHECKS.due("bad, with nobody", -2, new LaidByArgument().whom(10, 0));
    }

    private static void winning() {
        LaidByArgument x = new LaidByArgument();
        x.hen(0, 0);
        x.hen(5, 0);
        x.hen(3, 2);
        x.set(2, 0, 8);
        x.set(2, 1, 8);
        CHECKS.due("she holds it", 0, x.win(0, 3));
        CHECKS.due("by one", 1, x.win(0, 9));
        CHECKS.due("by one, the first", 1, x.win(0, 0));
        CHECKS.due("a speckled hen never comes to hold that", -1, x.win(1, 0));
        CHECKS.due("a speckled hen holds it", 0, x.win(1, 3));
        CHECKS.due("a speckled hen never comes to", -1, x.win(1, 9));
        CHECKS.due("nor an old one of an even number", -1, x.win(2, 0));
        CHECKS.due("only thought of", 8, x.told(0, 2));
        for (int wrong : WRONG) {
            CHECKS.due("win(" + wrong + ", 0)", -2, x.win(wrong, 0));
            CHECKS.due("win(0, " + wrong + ")", -2, x.win(0, wrong));
        }
        CHECKS.due("win(3, 0)", -2, x.win(3, 0));
    }

    private static void winningByThree() {
        LaidByArgument x = new LaidByArgument();
        Checks.rule(x, "lays 0; yields point < holds+1; drops 0;");
        x.hen(0, 0);
        for (int point = 0; point < 10; point++) {
            CHECKS.due("by so many more, " + point, point < 3 ? point + 1 : -1, x.win(0, point));
        }
        x.set(2, 0, 3);
        CHECKS.due("0", 0, x.win(0, 0));
        CHECKS.due("4", 3, x.win(0, 4));
        CHECKS.due("5", -1, x.win(0, 5));
        LaidByArgument y = new LaidByArgument();
        y.hen(2, 0);
        y.against(0, 9, 1);
        y.against(1, 9, 1);
        y.against(4, 1, 1);
        y.set(2, 0, 3);
        CHECKS.due("a broody hen yields behind the one that one of them goes by", 2, y.win(0, 9));
    }

    private static void agreeing() {
        LaidByArgument x = new LaidByArgument();
        x.hen(0, 0);
        CHECKS.due("no other", -2, x.agree(0, 1));
        x.hen(0, 0);
        CHECKS.due("both hold nothing", 10, x.agree(0, 1));
        x.set(2, 0, 1023);
        CHECKS.due("one all, one nothing", 0, x.agree(1, 0));
        x.set(2, 1, 1000);
        CHECKS.due("six", 6, x.agree(0, 1));
        x.set(2, 0, 15);
        CHECKS.due("held by both, and by neither", 1 + 1, x.agree(0, 1));
        CHECKS.due("one and the same", -2, x.agree(1, 1));
        for (int wrong : WRONG) {
            CHECKS.due("agree(" + wrong + ", 0)", -2, x.agree(wrong, 0));
            CHECKS.due("agree(0, " + wrong + ")", -2, x.agree(0, wrong));
            CHECKS.due("agree of nobody, twice", -2, x.agree(wrong, wrong));
        }
    }
}

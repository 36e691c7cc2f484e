/** Promises 23 to 29: what was told of laying, drawn mornings, images, counts. */
public final class ToldTest {
    private static final Checks CHECKS = new Checks("ToldTest");
    private static final long NO = -4611686018427387904L;

    public static void main(String[] args) {
        theFirstOtherwise();
        kinds();
        numbers();
        days();
        arguments();
        texts();
        hens();
        tellsRefuses();
        filming();
        drawing();
        chances();
        chancesRefuse();
        images();
        imagesOfLess();
        counts();
        CHECKS.end();
    }

    /** 0 is against 1 and 2, 1 is against 2; a hen of kind 0, number 3, who holds 0 and 1. */
    private static LaidByArgument farm() {
        LaidByArgument x = new LaidByArgument();
        x.against(0, 1, 1);
        x.against(0, 2, 1);
        x.against(1, 2, 1);
        x.hen(0, 3);
        x.set(2, 0, 3);
        return x;
    }

    private static void theFirstOtherwise() {
        LaidByArgument x = farm();
        Checks.row(x, 0, 1, 0, 1, 2, 0, 0, 0, 0, 0, 0, 0);
        CHECKS.due("all so", -1, x.tells(0, 0, 0));
        x.cell(0, 9, 1);
        CHECKS.due("the last", 9, x.tells(0, 0, 0));
        x.cell(0, 1, 257);
        CHECKS.due("the second, which is a short", 1, x.tells(0, 0, 0));
        x.cell(0, 0, -1);
        CHECKS.due("the first", 0, x.tells(0, 0, 0));
        Checks.row(x, 0, 0, 256, 257, 258);
        CHECKS.due("of bytes the lowest 8 bits", -1, x.tells(0, 0, 0));
        Checks.row(x, 0, 1, 65536, 65537, 65538);
        CHECKS.due("of shorts the lowest 16 bits", -1, x.tells(0, 0, 0));
        Checks.row(x, 0, 2, 65536);
        CHECKS.due("of ints all", 0, x.tells(0, 0, 0));
        x.sheet(0, 2, 0);
        CHECKS.due("of nothing", -1, x.tells(0, 0, 0));
        // Each is put now, not behind the others: by 1 she would hold it, and 2 is laid by as before.
        x.set(2, 0, 1);
        Checks.row(x, 0, 2, 0, 1, 1);
        CHECKS.due("each now", -1, x.tells(0, 0, 0));
    }

    private static void kinds() {
        LaidByArgument x = farm();
        x.set(0, 0, 1);
        Checks.row(x, 0, 0, 0, 1, 2);
        // An old hen lays three more by 0, which she holds.
        CHECKS.due("a hen, a broody, a college one", 1 + 4 + 16, x.tells(0, 0, 1));
        x.set(0, 0, 0);
        CHECKS.due("a hen alone, on day 0", 1, x.tells(0, 0, 1));
        Checks.row(x, 0, 0, 0, 2, 4);
        CHECKS.due("a pullet", 2, x.tells(0, 0, 1));
        Checks.row(x, 0, 0, 3, 5, 4);
        CHECKS.due("an old one", 8, x.tells(0, 0, 1));
        x.set(1, 0, 0);
        Checks.row(x, 0, 0, 0, 2, 4);
        CHECKS.due("a pullet or an old one of number 0", 10, x.tells(0, 0, 1));
        Checks.row(x, 0, 0, 1, 0, 0, 1);
        CHECKS.due("a speckled one", 32, x.tells(0, 0, 1));
        Checks.row(x, 0, 0, 7);
        CHECKS.due("none", 0, x.tells(0, 0, 1));
        CHECKS.due("her kind stays", 0, x.told(0, 4));
    }

    private static void numbers() {
        LaidByArgument x = farm();
        x.hen(3, 4);
        x.set(2, 1, 3);
        Checks.row(x, 0, 0, 7, 9, 4);
        CHECKS.due("number 7", 128, x.tells(0, 1, 2));
        Checks.row(x, 0, 0, 9);
        CHECKS.due("number 9", 512, x.tells(0, 1, 2));
        x.sheet(0, 0, 0);
        CHECKS.due("any", 1023, x.tells(0, 1, 2));
        Checks.row(x, 0, 0, 10);
        CHECKS.due("none", 0, x.tells(0, 1, 2));
        Checks.rule(x, "lays number*10; yields 1; drops 0;");
        Checks.row(x, 0, 0, 0, 50);
        CHECKS.due("by the rule", 32, x.tells(0, 0, 2));
        CHECKS.due("her number stays", 3, x.told(0, 1));
    }

    private static void days() {
        LaidByArgument x = farm();
        x.set(0, 0, 500);
        x.hen(2, 0);
        x.set(2, 1, 3);
        Checks.row(x, 0, 0, 0, 1, 2);
        CHECKS.due("a hen's, any", 100, x.tells(0, 0, 3));
        CHECKS.due("a hen's least", 0, x.tells(0, 0, 4));
        CHECKS.due("a broody one's", 66, x.tells(0, 1, 3));
        CHECKS.due("a broody one's least", 1, x.tells(0, 1, 4));
        Checks.row(x, 0, 0, 0, 0, 0);
        CHECKS.due("a broody one's others", 34, x.tells(0, 1, 3));
        CHECKS.due("the least of them", 0, x.tells(0, 1, 4));
        CHECKS.due("a hen's, none", 0, x.tells(0, 0, 3));
        CHECKS.due("a hen's least of none", -1, x.tells(0, 0, 4));
        Checks.rule(x, "lays day; yields 1; drops 0;");
        Checks.row(x, 0, 0, 0, 99);
        CHECKS.due("day 99", 1, x.tells(0, 0, 3));
        CHECKS.due("day 99 is the least", 99, x.tells(0, 0, 4));
        Checks.rule(x, "lays day = 100; yields 1; drops 0;");
        Checks.row(x, 0, 0, 0, 1);
        CHECKS.due("day 100 is none of them", 0, x.tells(0, 0, 3));
        CHECKS.due("nor the least", -1, x.tells(0, 0, 4));
        CHECKS.due("the day stays", 500, x.told(0, 0));
    }

    private static void arguments() {
        LaidByArgument x = farm();
        Checks.row(x, 0, 0, 0, 1, 2);
        CHECKS.due("any that is against none of them", 1020, x.tells(0, 0, 5));
        Checks.row(x, 0, 0, 0, 0, 1);
        CHECKS.due("were 0 not held", 1, x.tells(0, 0, 5));
        Checks.row(x, 0, 0, 0, 1, 1);
        CHECKS.due("were 1 not held", 2, x.tells(0, 0, 5));
        x.set(2, 0, 0);
        CHECKS.due("were 0 held", 1, x.tells(0, 0, 5));
        Checks.row(x, 0, 0, 0, 0, 0);
        CHECKS.due("were none of them held", 1020, x.tells(0, 0, 5));
        CHECKS.due("what she holds stays", 0, x.told(0, 2));
    }

    private static void texts() {
        LaidByArgument x = farm();
        Checks.read(x, "lays against*against; yields 1; drops 0;");
        Checks.read(x, "lays against*(point<3); yields 1; drops 0;");
        Checks.read(x, "lays point+1; yields 1; drops 0;");
        Checks.row(x, 0, 0, 0, 1, 2);
        CHECKS.due("texts 0 and 2", 5, x.tells(0, 0, 6));
        Checks.row(x, 0, 0, 0, 1, 4);
        CHECKS.due("text 1", 2, x.tells(0, 0, 6));
        Checks.row(x, 0, 0, 0, 2, 3);
        CHECKS.due("text 3", 8, x.tells(0, 0, 6));
        Checks.row(x, 0, 0, 0, 2, 9);
        CHECKS.due("none", 0, x.tells(0, 0, 6));
        x.sheet(0, 0, 0);
        CHECKS.due("all", 15, x.tells(0, 0, 6));
        CHECKS.due("the rule stays", 0, x.count(5));
    }

    private static void hens() {
        LaidByArgument x = farm();
        x.hen(1, 3);
        x.hen(2, 3);
        x.hen(0, 3);
        x.set(2, 1, 3);
        x.set(2, 2, 3);
        x.set(2, 3, 3);
        x.set(0, 0, 1);
        Checks.row(x, 0, 0, 0, 1, 2);
        CHECKS.due("three of four", 1 + 4 + 8, x.tells(0, 1, 7));
        x.set(0, 0, 3);
        CHECKS.due("two of four", 1 + 8, x.tells(0, 0, 7));
        Checks.row(x, 0, 0, 0, 2);
        CHECKS.due("one of four", 2, x.tells(0, 3, 7));
        x.sheet(0, 0, 0);
        CHECKS.due("all four, and none more", 15, x.tells(0, 3, 7));
    }

    private static void tellsRefuses() {
        LaidByArgument x = farm();
        x.sheet(0, 0, 11);
        x.sheet(1, 0, 10);
        CHECKS.due("no such sheet", -2, x.tells(4, 0, 0));
        CHECKS.due("sheet -1", -2, x.tells(-1, 0, 0));
        CHECKS.due("no such hen, ahead of a missing one", -2, x.tells(2, 1, 0));
        CHECKS.due("what 8, ahead of a missing one", -2, x.tells(2, 0, 8));
        CHECKS.due("what -1", -2, x.tells(1, 0, -1));
        CHECKS.due("no such hen for hens either", -2, x.tells(1, 1, 7));
        for (int what = 0; what < 8; what++) {
            CHECKS.due("a missing one", -11, x.tells(2, 0, what));
            CHECKS.due("eleven", -2, x.tells(0, 0, what));
        }
        CHECKS.due("ten", 1, x.tells(1, 0, 0));
    }

    private static void filming() {
        LaidByArgument x = farm();
        Checks.rule(x, "lays against*40; yields 1; drops 0;");
        x.against(1, 9, 1);
        x.sheet(2, 2, 40);
        CHECKS.due("all, together", 40 + 80 + 40, x.film(2, 0));
        CHECKS.due("it tells so", -1, x.tells(2, 0, 0));
        CHECKS.due("of ten", -12, x.cell(2, 10, 0));
        CHECKS.due("of bytes", 0, x.hens(2, 0, 0, 0));
        CHECKS.due("not ints", -13, x.hens(2, 2, 0, 0));
        CHECKS.due("a missing one becomes one", 160, x.film(3, 0));
        CHECKS.due("it tells so too", -1, x.tells(3, 0, 0));
        x.against(1, 0, 1);
        CHECKS.due("by the first too", 200, x.film(3, 0));
        CHECKS.due("it tells so as well", -1, x.tells(3, 0, 0));
        CHECKS.due("she is put none", 3, x.told(0, 2));
        CHECKS.due("no eggs", 0, x.told(0, 3));
        CHECKS.due("no such sheet", -2, x.film(4, 0));
        CHECKS.due("sheet -1", -2, x.film(-1, 0));
        CHECKS.due("no such hen", -2, x.film(3, 1));
        CHECKS.due("hen -1", -2, x.film(1, -1));
        CHECKS.due("a refusal leaves it missing", -11, x.cell(1, 0, 0));
    }

    private static int draw(int z) {
        return z * 1103515245 + 12345;
    }

    private static void drawing() {
        int[] seeds = {0, 1, -1, 12345, Integer.MAX_VALUE, Integer.MIN_VALUE};
        for (int seed : seeds) {
            LaidByArgument x = farm();
            Checks.rule(x, "lays point+1+eggs-eggs*3*(eggs<30); yields 1; drops 0;");
            for (int one = 0; one < 10; one++) {
                for (int other = 0; other < 10; other++) {
                    x.against(one, other, (one * 7 + other * 3) % 4 == 0 ? 1 : 0);
                }
            }
            LaidByArgument truly = farm();
            Checks.rule(truly, "lays point+1+eggs-eggs*3*(eggs<30); yields 1; drops 0;");
            for (int one = 0; one < 10; one++) {
                for (int other = 0; other < 10; other++) {
                    truly.against(one, other, (one * 7 + other * 3) % 4 == 0 ? 1 : 0);
                }
            }
            int z = seed;
            int laid = 0;
            for (int n = 0; n <= 60; n++) {
                CHECKS.due("drawn(" + seed + ", 0, " + n + ")", laid, x.drawn(seed, 0, n));
                z = draw(z);
                laid += truly.argue(0, (z >>> 9) % 10);
            }
            CHECKS.due("only in thought", 3, x.told(0, 2));
            CHECKS.due("no eggs", 0, x.told(0, 3));
            CHECKS.due("n 61", -2, x.drawn(seed, 0, 61));
            CHECKS.due("n -1", -2, x.drawn(seed, 0, -1));
            CHECKS.due("no such hen", -2, x.drawn(seed, 1, 0));
            CHECKS.due("hen -1", -2, x.drawn(seed, -1, 0));
        }
        // By hand: z is 12345, 12345 >>> 9 is 24, so 4 is put.
        LaidByArgument x = new LaidByArgument();
        x.hen(0, 0);
        x.against(0, 4, 1);
        x.set(2, 0, 1);
        CHECKS.due("4 is drawn first by 0", 1, x.drawn(0, 0, 1));
    }

    private static void chances() {
        for (int seed = Integer.MAX_VALUE - 3; seed != Integer.MIN_VALUE + 3; seed++) {
            LaidByArgument x = farm();
            Checks.rule(x, "lays point+1; yields 1; drops 0;");
            for (int m = 1; m <= 20; m += 19) {
                for (int k = 0; k < 30; k += 5) {
                    int enough = 0;
                    for (int i = 0; i < m; i++) {
                        enough += x.drawn(seed + i, 0, 8) >= k ? 1 : 0;
                    }
                    int common = m;
                    while (enough % common != 0 || m % common != 0) {
                        common--;
                    }
                    String call = "chance(" + seed + ", " + m + ", 0, " + k + ", ";
                    CHECKS.due(call + "0)", enough / common, x.chance(seed, m, 0, k, 0));
                    CHECKS.due(call + "1)", m / common, x.chance(seed, m, 0, k, 1));
                }
            }
        }
        LaidByArgument x = farm();
        CHECKS.due("never: above", 0, x.chance(5, 12, 0, 999, 0));
        CHECKS.due("never: below", 1, x.chance(5, 12, 0, 999, 1));
        CHECKS.due("ever: above", 1, x.chance(5, 12, 0, 0, 0));
        CHECKS.due("ever: below", 1, x.chance(5, 12, 0, 0, 1));
        CHECKS.due("only in thought", 3, x.told(0, 2));
    }

    private static void chancesRefuse() {
        LaidByArgument x = farm();
        CHECKS.due("m 0", NO, x.chance(0, 0, 0, 0, 0));
        CHECKS.due("m -1", NO, x.chance(0, -1, 0, 0, 0));
        CHECKS.due("m 21", NO, x.chance(0, 21, 0, 0, 0));
        CHECKS.due("no such hen", NO, x.chance(0, 1, 1, 0, 0));
        CHECKS.due("hen -1", NO, x.chance(0, 1, -1, 0, 0));
        CHECKS.due("k -1", NO, x.chance(0, 1, 0, -1, 0));
        CHECKS.due("k 1000", NO, x.chance(0, 1, 0, 1000, 0));
        CHECKS.due("part 2", NO, x.chance(0, 1, 0, 0, 2));
        CHECKS.due("part -1", NO, x.chance(0, 1, 0, 0, -1));
    }

    private static void images() {
        LaidByArgument x = farm();
        CHECKS.due("none yet", -3, x.back());
        Checks.read(x, "lays 1; yields 1; drops 0;");
        x.force(1);
        x.hen(4, 8);
        x.set(0, 0, 77);
        x.set(3, 0, 12);
        CHECKS.due("an image", 2, x.image());
        String ahead = Checks.stateOf(x);
        for (int times = 0; times < 2; times++) {
            x.against(0, 1, 0);
            x.against(9, 8, 1);
            x.set(0, 0, 3);
            x.set(1, 1, 2);
            x.set(2, 0, 1000);
            x.set(2, 1, 1);
            x.set(3, 0, 999);
            x.force(0);
            x.hen(5, 5);
            x.hen(5, 5);
            CHECKS.due("back", 2, x.back());
            CHECKS.due("all as in the image", 1, ahead.equals(Checks.stateOf(x)) ? 1 : 0);
        }
        CHECKS.due("another came since", 2, x.hen(1, 0));
        CHECKS.due("she holds nothing", 0, x.told(2, 2));
        CHECKS.due("an image of three", 3, x.image());
        x.night();
        CHECKS.due("back to the newest", 3, x.back());
        CHECKS.due("its day", 77, x.told(0, 0));
    }

    private static void imagesOfLess() {
        LaidByArgument x = new LaidByArgument();
        CHECKS.due("an image of nobody", 0, x.image());
        x.hen(0, 0);
        Checks.rule(x, "lays 1; yields 1; drops 0;");
        Checks.feedAll(x, "lays");
        Checks.row(x, 0, 0, 1, 2);
        CHECKS.due("back", 0, x.back());
        CHECKS.due("hens", 0, x.count(0));
        CHECKS.due("the rule", 0, x.count(5));
        CHECKS.due("texts stay", 2, x.count(3));
        CHECKS.due("the tape stays", 4, x.count(4));
        CHECKS.due("sheets stay", 1, x.cell(0, 1, 0));
    }

    private static void counts() {
        LaidByArgument x = farm();
        CHECKS.due("hens", 1, x.count(0));
        CHECKS.due("twos", 3, x.count(1));
        CHECKS.due("eggs", 0, x.count(2));
        CHECKS.due("texts", 1, x.count(3));
        CHECKS.due("tape", 0, x.count(4));
        CHECKS.due("rule", 0, x.count(5));
        x.against(1, 0, 1);
        x.hen(0, 0);
        x.set(3, 0, 990);
        x.set(3, 1, 15);
        x.feed(7);
        CHECKS.due("hens", 2, x.count(0));
        CHECKS.due("twos, both ways", 4, x.count(1));
        CHECKS.due("eggs of all", 1005, x.count(2));
        CHECKS.due("tape", 1, x.count(4));
        CHECKS.due("count(6)", -2, x.count(6));
        CHECKS.due("count(-1)", -2, x.count(-1));
    }
}

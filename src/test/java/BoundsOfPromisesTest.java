/** Each sentence of a promise that names a bound, at its ends; what is refused beside them is in RefusalsTest. */
public final class BoundsOfPromisesTest {
    private static final Checks CHECKS = new Checks("BoundsOfPromisesTest");
    private static final int[] ANY = {Integer.MIN_VALUE, -1, 0, 5, 10, Integer.MAX_VALUE};

    public static void main(String[] args) {
        aNewObject();
        against();
        set();
        hen();
        told();
        asks();
        feed();
        text();
        force();
        argue();
        night();
        morning();
        teach();
        nights();
        field();
        sets();
        share();
        best();
        three();
        whom();
        win();
        agree();
        tells();
        film();
        drawn();
        chance();
        image();
        back();
        count();
        sheet();
        cell();
        cellsLowestBits();
        copy();
        copyAsTheyWere();
        hens();
        hensLeftOut();
        taken();
        CHECKS.end();
    }

    /** One HEN; each two is 10 times the one that is AGAINST the other, and the other. */
    private static LaidByArgument farm(int kind, int number, int held, int... twos) {
        LaidByArgument x = new LaidByArgument();
        x.hen(kind, number);
        x.set(2, 0, held);
        for (int two : twos) {
            x.against(two / 10, two % 10, 1);
        }
        return x;
    }

    /** 0 against 1, 1 against 2, .., 9 against 0; one who HOLDS all. */
    private static LaidByArgument ring(int kind) {
        return farm(kind, 0, 1023, 1, 12, 23, 34, 45, 56, 67, 78, 89, 90);
    }

    private static void aNewObject() {
        CHECKS.by("1. Nothing AGAINST anything, no HENS.");
        LaidByArgument x = new LaidByArgument();
        CHECKS.due("twos", 0, x.count(1));
        CHECKS.due("hens", 0, x.count(0));
        CHECKS.due("of 0", -2, x.told(0, 4));
        for (int point = 0; point < 10; point++) {
            CHECKS.due("against " + point, 0, x.told(point, 6));
            CHECKS.due(point + " against", 0, x.told(point, 7));
        }
    }

    private static void against() {
        CHECKS.by("2. One ARGUMENT is AGAINST another one (on 1), or not (0): as it was.");
        LaidByArgument x = new LaidByArgument();
        for (int one = 0; one < 10; one++) {
            for (int other = 0; other < 10; other++) {
                String two = one + " against " + other;
                CHECKS.due(two + ", off", one == other ? -2 : 0, x.against(one, other, 0));
                CHECKS.due(two + ", on", one == other ? -2 : 0, x.against(one, other, 1));
            }
        }
        CHECKS.due("all of them", 90, x.count(1));
        LaidByArgument y = new LaidByArgument();
        y.against(0, 9, 1);
        CHECKS.due("on, as it is", 1, y.against(0, 9, 1));
        CHECKS.due("once", 1, y.count(1));
        CHECKS.due("not the other way", 0, y.against(9, 0, 0));
        CHECKS.due("off", 1, y.against(0, 9, 0));
        CHECKS.due("off, as it is", 0, y.against(0, 9, 0));
        CHECKS.due("none", 0, y.count(1));
    }

    private static void set() {
        CHECKS.by("3. DAY (what 0; of does not matter) .. becomes v: what it was.");
        LaidByArgument x = new LaidByArgument();
        int was = 0;
        for (int of : ANY) {
            int v = was == 0 ? 999 : 0;
            CHECKS.due("of " + of, was, x.set(0, of, v));
            CHECKS.due("of " + of + ", told", v, x.told(of, 0));
            was = v;
        }
        CHECKS.by("3. NUMBER (1), what she HOLDS (2; 0 .. 1023), EGGS (3) of a HEN becomes v: what it was.");
        for (int i = 0; i < 5; i++) {
            x.hen(0, i);
        }
        int[] most = {0, 9, 1023, 999};
        for (int what = 1; what < 4; what++) {
            for (int hen = 0; hen < 5; hen += 4) {
                CHECKS.due("what " + what + ", as she came", what == 1 ? hen : 0, x.set(what, hen, most[what]));
                CHECKS.due("what " + what + ", the most", most[what], x.set(what, hen, 0));
                CHECKS.due("what " + what + ", the least", 0, x.set(what, hen, most[what]));
                CHECKS.due("what " + what + ", told", most[what], x.told(hen, what));
            }
            CHECKS.due("what " + what + " of others", what == 1 ? 2 : 0, x.told(2, what));
        }
    }

    private static void hen() {
        CHECKS.by("4. A HEN: the number. BAD; FULL.");
        for (int kind = 0; kind < 6; kind++) {
            LaidByArgument x = new LaidByArgument();
            for (int i = 0; i < 5; i++) {
                CHECKS.due("of kind " + kind, i, x.hen(kind, i == 0 ? 0 : 9));
            }
            CHECKS.due("one too many", -4, x.hen(kind, 0));
            CHECKS.due("one of no kind", -2, x.hen(6, 0));
            CHECKS.due("one of no number", -2, x.hen(kind, 10));
        }
    }

    private static void told() {
        CHECKS.by("5. What 0 .. 3 as of set(), 4 KIND, 5 what she would DROP by night (bits) of a HEN");
        LaidByArgument x = new LaidByArgument();
        for (int of : ANY) {
            CHECKS.due("the day, of " + of, 0, x.told(of, 0));
        }
        Checks.rule(x, "lays 0;yields 0;drops 1;");
        for (int i = 0; i < 5; i++) {
            x.hen(i == 4 ? 3 : 0, i == 4 ? 9 : 0);
        }
        int[] first = {0, 0, 0, 0, 0, 0};
        int[] last = {0, 9, 1023, 999, 3, 1023};
        x.set(2, 4, 1023);
        x.set(3, 4, 999);
        for (int what = 0; what < 6; what++) {
            CHECKS.due("the first, what " + what, first[what], x.told(0, what));
            CHECKS.due("the last, what " + what, last[what], x.told(4, what));
        }
        CHECKS.by("5. 6 what is AGAINST an ARGUMENT (bits), 7 what that is AGAINST (bits)");
        LaidByArgument y = farm(0, 0, 0, 10, 20, 30, 40, 50, 60, 70, 80, 90, 9);
        CHECKS.due("against 0", 1022, y.told(0, 6));
        CHECKS.due("0 against", 512, y.told(0, 7));
        CHECKS.due("against 9", 1, y.told(9, 6));
        CHECKS.due("9 against", 1, y.told(9, 7));
        CHECKS.due("against 5", 0, y.told(5, 6));
    }

    private static void asks() {
        CHECKS.by("6. how many OBJECT (what 0), how much she LAYS (1), whether she YIELDS (2; 1, 0)");
        LaidByArgument x = new LaidByArgument();
        for (int i = 0; i < 5; i++) {
            x.hen(i == 4 ? 1 : 5, 0);
        }
        x.against(0, 9, 1);
        x.against(9, 0, 1);
        x.set(2, 4, 513);
        int[] first = {0, 1, 0, 1};
        int[] last = {1, 2, 1, 0};
        for (int what = 0; what < 4; what++) {
            CHECKS.due("the first, of 0, what " + what, first[what], x.asks(0, 0, what));
            CHECKS.due("the last, of 9, what " + what, last[what], x.asks(4, 9, what));
        }
        CHECKS.by("6. whether she would DROP it, did she HOLD it (3; 1, 0; as things are now)");
        LaidByArgument y = farm(0, 0, 0);
        Checks.rule(y, "lays 0;yields 0;drops holds=0 and point=9;");
        CHECKS.due("9, which she does not hold, as she holds nothing now", 1, y.asks(0, 9, 3));
        CHECKS.due("8", 0, y.asks(0, 8, 3));
        y.set(2, 0, 512);
        CHECKS.due("9, which she holds, as she holds one now", 0, y.asks(0, 9, 3));
    }

    private static void feed() {
        CHECKS.by("7. A byte (0 .. 255) comes behind THE TAPE: how many it has. BAD; FULL.");
        LaidByArgument x = new LaidByArgument();
        for (int i = 1; i <= 160; i++) {
            CHECKS.due("a byte", i, x.feed(i % 2 == 0 ? 0 : 255));
        }
        CHECKS.due("one too many", -4, x.feed(0));
        CHECKS.due("no byte, below", -2, x.feed(-1));
        CHECKS.due("no byte, above", -2, x.feed(256));
        CHECKS.due("its size", 160, x.count(4));
    }

    private static void text() {
        CHECKS.by("8. THE TAPE, which is empty then (by a FAULT, too), is a TEXT: its number");
        LaidByArgument x = new LaidByArgument();
        CHECKS.due("the next number", 1, Checks.read(x, "lays 1;yields 1;drops 0;"));
        CHECKS.due("empty then", 0, x.count(4));
        CHECKS.due("by a fault", -107, Checks.read(x, "lays 1;"));
        CHECKS.due("empty by it", 0, x.count(4));
        CHECKS.due("a fault takes no number", 2, Checks.read(x, "lays 2;yields 1;drops 0;"));
        CHECKS.by("8. -100 less the place of its FAULT");
        CHECKS.due("the first place", -100, x.text());
        CHECKS.due("the second place", -101, Checks.read(x, " "));
        CHECKS.due("the first place, of something", -100, Checks.read(x, "#lays 1;"));
        Checks.feedAll(x, "lays 1;yields 1;drops 0;");
        for (int i = x.count(4); i < 160; i++) {
            x.feed(i < 159 ? 32 : ';');
        }
        CHECKS.due("the last place", -259, x.text());
        Checks.feedAll(x, "lays 1;yields 1;drops 0");
        for (int i = x.count(4); i < 160; i++) {
            x.feed(32);
        }
        CHECKS.due("behind the last place", -260, x.text());
        CHECKS.by("8. FULL (ahead of all): no TEXT more has room (THE TAPE stays).");
        for (int number = 3; number < 6; number++) {
            CHECKS.due("the next number", number, Checks.read(x, "lays 1;yields 1;drops 0;"));
        }
        CHECKS.due("of nothing", -4, x.text());
        CHECKS.due("of a fault", -4, Checks.read(x, "#"));
        CHECKS.due("it stays", 1, x.count(4));
        CHECKS.due("and what is behind it", -4, Checks.read(x, "lays 1;yields 1;drops 0;"));
        CHECKS.due("stays too", 25, x.count(4));
    }

    private static void force() {
        CHECKS.by("9. A TEXT is THE RULE: which was. BAD.");
        LaidByArgument x = new LaidByArgument();
        CHECKS.due("that of the first", 0, x.force(0));
        for (int number = 1; number < 6; number++) {
            CHECKS.due("one that is not there yet", -2, x.force(number));
            Checks.read(x, "lays 1;yields 1;drops 0;");
            CHECKS.due("the last one", number - 1, x.force(number));
        }
        CHECKS.due("one behind the last", -2, x.force(6));
        CHECKS.due("the last again", 5, x.force(5));
        CHECKS.due("the first again", 5, x.force(0));
        CHECKS.due("the rule", 0, x.count(5));
    }

    private static void argue() {
        CHECKS.by("10. PUT, truly: how much she LAYS.");
        LaidByArgument x = new LaidByArgument();
        Checks.rule(x, "lays 99;yields 1;drops 0;");
        for (int i = 0; i < 5; i++) {
            x.hen(0, 0);
        }
        x.against(0, 9, 1);
        x.against(9, 0, 1);
        x.set(2, 4, 1);
        CHECKS.due("the first, 0", 0, x.argue(0, 0));
        CHECKS.due("holds", 1, x.told(0, 2));
        CHECKS.due("the last, 9", 99, x.argue(4, 9));
        CHECKS.due("holds, and 0 no more", 512, x.told(4, 2));
        CHECKS.due("eggs", 99, x.told(4, 3));
        x.set(3, 4, 950);
        CHECKS.due("all that she lays, though eggs end", 99, x.argue(4, 0));
        CHECKS.due("eggs", 999, x.told(4, 3));
    }

    private static void night() {
        CHECKS.by("11. A NIGHT, truly: how many ARGUMENTS all HOLD then, together.");
        LaidByArgument x = new LaidByArgument();
        CHECKS.due("of nobody", 0, x.night());
        CHECKS.due("day", 1, x.told(0, 0));
        for (int i = 0; i < 5; i++) {
            x.hen(0, 0);
            x.set(2, i, 1023);
        }
        CHECKS.due("of five who hold all", 50, x.night());
        x.set(2, 0, 512);
        x.set(2, 4, 0);
        CHECKS.due("of five", 31, x.night());
        Checks.rule(x, "lays 0;yields 0;drops 1;");
        CHECKS.due("all dropped", 0, x.night());
        CHECKS.by("11. STATE: DAY is 999.");
        x.set(2, 0, 1);
        x.set(0, 0, 998);
        CHECKS.due("998", 0, x.night());
        x.set(2, 0, 1);
        CHECKS.due("999", -3, x.night());
        CHECKS.due("day", 999, x.told(0, 0));
        CHECKS.due("she drops none", 1, x.told(0, 2));
        CHECKS.due("of nobody, 999", -3, lastDayOfNobody().night());
    }

    private static LaidByArgument lastDayOfNobody() {
        LaidByArgument x = new LaidByArgument();
        x.set(0, 0, 999);
        return x;
    }

    private static void morning() {
        CHECKS.by("12. how much she LAYS (what 0), what she HOLDS then (1; bits), by how many she LAYS nothing (2), by how many she YIELDS (3).");
        LaidByArgument x = ring(0);
        int[] none = {0, 1023, 0, 0};
        int[] forty = {1, 1 + 4, 39, 40};
        x.sheet(0, 2, 0);
        x.sheet(3, 0, 40);
        for (int what = 0; what < 4; what++) {
            CHECKS.due("of none, what " + what, none[what], x.morning(0, 0, what));
        }
        // By 2 she lays, for she holds 1, which is against it; by 0 nothing, and 1 goes.
        x.against(9, 0, 0);
        x.set(2, 0, 2);
        x.cell(3, 0, 2);
        for (int what = 0; what < 4; what++) {
            CHECKS.due("of forty, 2 and then 0, what " + what, forty[what], x.morning(3, 0, what));
        }
        LaidByArgument never = farm(5, 0, 0);
        never.sheet(0, 0, 40);
        CHECKS.due("by none she yields", 0, never.morning(0, 0, 3));
        CHECKS.due("by none she lays nothing", 0, never.morning(0, 0, 2));
        LaidByArgument once = farm(2, 0, 3, 9, 19, 40);
        Checks.row(once, 0, 0, 9, 4, 9, 9);
        CHECKS.due("by 4, and by 9 behind it, for 0 goes", 3, once.morning(0, 0, 3));
        CHECKS.by("12. BAD: it tells one that is no ARGUMENT.");
        int[] items = {-1, 0, 9, 10};
        for (int item : items) {
            Checks.row(x, 1, 1, 0, 0, item);
            CHECKS.due("the last is " + item, item < 0 || item > 9 ? -2 : 0, x.morning(1, 0, 0));
            Checks.row(x, 1, 1, item, 0, 0);
            CHECKS.due("the first is " + item, item < 0 || item > 9 ? -2 : 0, x.morning(1, 0, 0));
        }
        Checks.row(x, 1, 0, 256, 255);
        CHECKS.due("bytes 0 and 255", -2, x.morning(1, 0, 0));
        Checks.row(x, 1, 0, 256, 265);
        CHECKS.due("bytes 0 and 9", 0, x.morning(1, 0, 0));
    }

    private static void teach() {
        CHECKS.by("13. It, truly: how much she LAYS. BAD, -11, BAD likewise.");
        LaidByArgument x = farm(0, 0, 1, 9);
        Checks.rule(x, "lays 30;yields 1;drops 0;");
        x.sheet(0, 0, 0);
        CHECKS.due("none", 0, x.teach(0, 0));
        CHECKS.due("holds", 1, x.told(0, 2));
        x.sheet(0, 2, 40);
        for (int i = 0; i < 40; i++) {
            x.cell(0, i, 9);
        }
        CHECKS.due("forty: all that she lays", 1200, x.teach(0, 0));
        CHECKS.due("eggs", 999, x.told(0, 3));
        CHECKS.due("holds", 513, x.told(0, 2));
        x.set(2, 0, 1);
        x.set(3, 0, 0);
        x.cell(0, 39, 10);
        CHECKS.due("the last is no argument", -2, x.teach(0, 0));
        CHECKS.due("none was put", 1, x.told(0, 2));
        CHECKS.due("none was laid", 0, x.told(0, 3));
        CHECKS.due("missing", -11, x.teach(1, 0));
    }

    private static void nights() {
        CHECKS.by("14. n NIGHTS: what she HOLDS (what 0; bits), how much she has LAID (1).");
        LaidByArgument x = farm(0, 0, 1, 9);
        Checks.rule(x, "lays 99;yields 1;drops 0;");
        CHECKS.due("none: holds", 1, x.nights(0, 9, 0, 0));
        CHECKS.due("none: laid", 0, x.nights(0, 9, 0, 1));
        CHECKS.due("thirty: holds", 513, x.nights(0, 9, 30, 0));
        CHECKS.due("thirty: laid, more than eggs have room", 2970, x.nights(0, 9, 30, 1));
        x.set(0, 0, 999);
        CHECKS.due("on the last day", 2970, x.nights(0, 9, 30, 1));
        CHECKS.due("0, by none", 0, x.nights(0, 0, 30, 1));
    }

    private static LaidByArgument allAgainstAll() {
        LaidByArgument x = new LaidByArgument();
        for (int two = 0; two < 100; two++) {
            x.against(two / 10, two % 10, 1);
        }
        return x;
    }

    private static void field() {
        CHECKS.by("15. STANDING (what 0; bits), what is out of it (1; bits), how many FREE sets (2), STABLE ones (3), the least of these (4; NONE), VAIN (5).");
        int[] none = {1023, 0, 1024, 1, 1023, 0};
        int[] all = {0, 0, 11, 10, 1, 0};
        int[] ring = {0, 0, 123, 2, 341, 0};
        int[] star = {1, 1022, 513, 1, 1, 9};
        LaidByArgument y = farm(0, 0, 0, 1, 2, 3, 4, 5, 6, 7, 8, 9);
        LaidByArgument odd = farm(0, 0, 0, 1, 12, 20);
        for (int what = 0; what < 6; what++) {
            CHECKS.due("nothing against anything, what " + what, none[what], new LaidByArgument().field(what));
            CHECKS.due("all against all, what " + what, all[what], allAgainstAll().field(what));
            CHECKS.due("a ring of ten, what " + what, ring[what], ring(0).field(what));
            CHECKS.due("0 against all, what " + what, star[what], y.field(what));
        }
        CHECKS.due("a ring of three: stable", 0, odd.field(3));
        CHECKS.due("a ring of three: the least of none", -1, odd.field(4));
    }

    private static void sets() {
        CHECKS.by("16. whether it is FREE (what 0; 1, 0), STABLE (1), DEFENDED by it (2; bits)");
        LaidByArgument x = new LaidByArgument();
        int[] none = {1, 0, 1023};
        int[] all = {1, 1, 1023};
        int[] ofStrife = {0, 0, 1023};
        LaidByArgument y = ring(0);
        for (int what = 0; what < 3; what++) {
            CHECKS.due("none, without strife, what " + what, none[what], x.sets(0, what));
            CHECKS.due("all, without strife, what " + what, all[what], x.sets(1023, what));
            CHECKS.due("all, in a ring, what " + what, ofStrife[what], y.sets(1023, what));
        }
        CHECKS.due("none, in a ring, defends", 0, y.sets(0, 2));
        CHECKS.due("every second one of a ring is stable", 1, y.sets(341, 1));
        CHECKS.due("and defends itself", 341, y.sets(341, 2));
        CHECKS.due("one less is not stable", 0, y.sets(340, 1));
        CHECKS.due("one less is free", 1, y.sets(340, 0));
        CHECKS.due("one more is not free", 0, y.sets(343, 0));
    }

    private static void share() {
        CHECKS.by("17. part 0 above, 1 below the line, in lowest terms");
        LaidByArgument x = new LaidByArgument();
        int[] above = {1, 9, 4, 7, 3, 1, 2, 3, 1, 1};
        int[] below = {1, 10, 5, 10, 5, 2, 5, 10, 5, 10};
        for (int out = 0; out < 10; out++) {
            CHECKS.due(out + " out: above", above[out], x.share(0));
            CHECKS.due(out + " out: below", below[out], x.share(1));
            x.against(0, out + 1, 1);
        }
        CHECKS.due("none of ten: above", 0, allAgainstAll().share(0));
        CHECKS.due("none of ten: below", 1, allAgainstAll().share(1));
    }

    private static void best() {
        CHECKS.by("18. BEST (what 0), how much she LAYS (1)");
        LaidByArgument x = farm(0, 0, 0);
        CHECKS.due("by none", 0, x.best(0, 0));
        CHECKS.due("nothing", 0, x.best(0, 1));
        CHECKS.due("a speckled one, to whom all are objected", 0, ring(5).best(0, 0));
        CHECKS.due("nothing either", 0, ring(5).best(0, 1));
        LaidByArgument y = farm(0, 0, 1023, 89);
        Checks.rule(y, "lays 100;yields 1;drops 0;");
        CHECKS.due("by the last", 9, y.best(0, 0));
        CHECKS.due("the most", 99, y.best(0, 1));
        CHECKS.by("18. NEAREST (2; NONE), how much they AGREE (3; NONE)");
        CHECKS.due("of nobody", -1, y.best(0, 2));
        CHECKS.due("how much", -1, y.best(0, 3));
        y.hen(0, 0);
        CHECKS.due("of one", 1, y.best(0, 2));
        CHECKS.due("in nothing", 0, y.best(0, 3));
        y.set(2, 1, 1023);
        CHECKS.due("in all", 10, y.best(0, 3));
        CHECKS.due("of the other", 0, y.best(1, 2));
    }

    private static void three() {
        CHECKS.by("19. THREE (what 0), how much (1).");
        LaidByArgument x = farm(0, 0, 1023, 89);
        Checks.rule(x, "lays 100;yields 1;drops 0;");
        int[] last = {0, 10, 120, 1330};
        for (int n = 0; n < 4; n++) {
            CHECKS.due("n " + n, last[n], x.three(0, n, 0));
            CHECKS.due("how much, n " + n, 99 * n, x.three(0, n, 1));
        }
    }

    private static void whom() {
        CHECKS.by("20. TO WHOM (what 0; NONE), how much (1; NONE).");
        LaidByArgument x = new LaidByArgument();
        CHECKS.due("nobody", -1, x.whom(0, 0));
        CHECKS.due("nobody, how much", -1, x.whom(9, 1));
        x.hen(0, 0);
        CHECKS.due("one", 0, x.whom(0, 0));
        CHECKS.due("one, how much", 0, x.whom(9, 1));
        for (int i = 0; i < 4; i++) {
            x.hen(0, 0);
        }
        x.set(2, 4, 1);
        x.against(0, 9, 1);
        CHECKS.due("the last", 4, x.whom(9, 0));
        CHECKS.due("the last, how much", 1, x.whom(9, 1));
        CHECKS.due("of like ones the first", 0, x.whom(0, 0));
    }

    private static void win() {
        CHECKS.by("21. WIN. BAD; NONE.");
        LaidByArgument x = farm(0, 0, 0);
        Checks.rule(x, "lays 0;yields 8<point+holds;drops 0;");
        CHECKS.due("9", 1, x.win(0, 9));
        CHECKS.due("8", 2, x.win(0, 8));
        CHECKS.due("7", 3, x.win(0, 7));
        CHECKS.due("6", -1, x.win(0, 6));
        CHECKS.due("0", -1, x.win(0, 0));
        x.set(2, 0, 1);
        CHECKS.due("0, held", 0, x.win(0, 0));
        CHECKS.due("a speckled one", -1, farm(5, 0, 1).win(0, 9));
        CHECKS.due("a speckled one who holds it", 0, farm(5, 0, 1).win(0, 0));
    }

    private static void agree() {
        CHECKS.by("22. AGREE. BAD: no such two, one and the same.");
        LaidByArgument x = new LaidByArgument();
        for (int i = 0; i < 5; i++) {
            x.hen(0, 0);
            CHECKS.due("with one who is not there yet", -2, x.agree(0, i + 1));
            CHECKS.due("with herself", -2, x.agree(i, i));
        }
        x.set(2, 4, 1023);
        CHECKS.due("in all", 10, x.agree(0, 3));
        CHECKS.due("in nothing", 0, x.agree(0, 4));
        CHECKS.due("in nothing, the other way", 0, x.agree(4, 0));
    }

    private static void tells() {
        CHECKS.by("23. the first that is otherwise (what 0; NONE), .. the least (4; NONE), .. HENS (7)");
        LaidByArgument x = farm(0, 0, 1023, 89);
        int[] none = {-1, 63, 1023, 100, 0, 1023, 1, 1};
        int[] never = {0, 0, 0, 0, -1, 0, 0, 0};
        x.sheet(0, 1, 0);
        Checks.row(x, 1, 1, 5);
        for (int what = 0; what < 8; what++) {
            CHECKS.due("of nothing told, what " + what, none[what], x.tells(0, 0, what));
            CHECKS.due("of what is never so, what " + what, never[what], x.tells(1, 0, what));
        }
        x.sheet(2, 2, 10);
        CHECKS.due("of ten, the last is otherwise", 9, x.tells(2, 0, 0));
        x.cell(2, 9, 1);
        CHECKS.due("of ten, all so", -1, x.tells(2, 0, 0));
        x.cell(2, 0, 256);
        CHECKS.due("of ten, the first is otherwise", 0, x.tells(2, 0, 0));
        CHECKS.by("23. BAD: it tells more than 10.");
        x.sheet(2, 2, 11);
        CHECKS.due("eleven", -2, x.tells(2, 0, 0));
        x.sheet(2, 2, 40);
        CHECKS.due("forty", -2, x.tells(2, 0, 7));
    }

    private static void film() {
        CHECKS.by("24. A SHEET truly becomes how much one would LAY by ARGUMENTS 0 .. 9, each PUT now (bytes): all, together.");
        LaidByArgument x = ring(0);
        Checks.rule(x, "lays 100;yields 1;drops 0;");
        CHECKS.due("the most by each", 990, x.film(0, 0));
        CHECKS.due("the last of ten", 1, x.copy(0, 9, 0, 0, 1));
        CHECKS.due("none behind it", -12, x.copy(0, 10, 0, 0, 1));
        CHECKS.due("bytes", 0, x.hens(0, 0, 0, 0));
        CHECKS.due("it tells so", -1, x.tells(0, 0, 0));
        x.sheet(3, 2, 40);
        CHECKS.due("what was a row of ints", 990, x.film(3, 0));
        CHECKS.due("bytes now", 0, x.hens(3, 0, 0, 0));
        CHECKS.due("ten now", -12, x.copy(3, 10, 3, 0, 1));
        x.set(2, 0, 0);
        CHECKS.due("nothing by each", 0, x.film(3, 0));
        CHECKS.due("it tells nothing by each", -1, x.tells(3, 0, 0));
        CHECKS.due("she is put none", 0, x.told(0, 2));
        CHECKS.due("a speckled one, to whom all are objected", 0, ring(5).film(0, 0));
        CHECKS.due("a speckled one, to whom none is", 10, farm(5, 0, 0).film(0, 0));
    }

    private static void drawn() {
        CHECKS.by("25. DRAWN. BAD: no such HEN, n.");
        LaidByArgument x = ring(0);
        Checks.rule(x, "lays 100;yields 0;drops 0;");
        for (int seed : ANY) {
            CHECKS.due("none, seed " + seed, 0, x.drawn(seed, 0, 0));
            CHECKS.due("one, seed " + seed, 99, x.drawn(seed, 0, 1));
            CHECKS.due("sixty, seed " + seed, 5940, x.drawn(seed, 0, 60));
        }
        CHECKS.due("sixty-one", -2, x.drawn(0, 0, 61));
        CHECKS.due("no such hen", -2, x.drawn(0, 1, 0));
    }

    private static void chance() {
        CHECKS.by("26. IN m seeds: part 0 above, 1 below the line, in lowest terms.");
        LaidByArgument x = ring(0);
        Checks.rule(x, "lays 100;yields 0;drops 0;");
        for (int m = 1; m < 21; m++) {
            CHECKS.due(m + " of " + m + ": above", 1, x.chance(-3, m, 0, 792, 0));
            CHECKS.due(m + " of " + m + ": below", 1, x.chance(-3, m, 0, 792, 1));
            CHECKS.due("0 of " + m + ": above", 0, x.chance(-3, m, 0, 793, 0));
            CHECKS.due("0 of " + m + ": below", 1, x.chance(-3, m, 0, 793, 1));
        }
        CHECKS.due("k 0", 1, x.chance(0, 20, 0, 0, 0));
        CHECKS.due("k 999", 0, x.chance(0, 20, 0, 999, 0));
        LaidByArgument y = farm(0, 0, 1, 1, 2, 3, 4);
        Checks.rule(y, "lays 1;yields 0;drops 0;");
        for (int m = 1; m < 21; m++) {
            int enough = 0;
            for (int i = 0; i < m; i++) {
                enough += y.drawn(Integer.MAX_VALUE - 9 + i, 0, 8) >= 3 ? 1 : 0;
            }
            long above = y.chance(Integer.MAX_VALUE - 9, m, 0, 3, 0);
            long below = y.chance(Integer.MAX_VALUE - 9, m, 0, 3, 1);
            CHECKS.due("seeds that wrap, " + m, enough * below, m * above);
            CHECKS.due("lowest, " + m, 1, java.math.BigInteger.valueOf(above).gcd(java.math.BigInteger.valueOf(below)).longValue());
        }
    }

    private static void image() {
        CHECKS.by("27. AN IMAGE is kept: how many HENS.");
        LaidByArgument x = new LaidByArgument();
        for (int i = 0; i < 6; i++) {
            CHECKS.due("of " + i, i, x.image());
            CHECKS.due("back to it", i, x.back());
            x.hen(0, 0);
        }
        x.set(0, 0, 5);
        x.image();
        x.set(0, 0, 6);
        x.image();
        x.set(0, 0, 7);
        x.back();
        CHECKS.due("the last one counts", 6, x.told(0, 0));
    }

    private static void back() {
        CHECKS.by("28. All that it keeps is as in THE IMAGE: how many HENS. STATE: there is none.");
        LaidByArgument x = new LaidByArgument();
        CHECKS.due("none", -3, x.back());
        for (int i = 0; i < 5; i++) {
            x.hen(0, 0);
        }
        CHECKS.due("none, of five hens", -3, x.back());
        CHECKS.due("five stay", 5, x.count(0));
        LaidByArgument y = new LaidByArgument();
        y.image();
        for (int i = 0; i < 5; i++) {
            y.hen(5, 9);
        }
        CHECKS.due("of no hens", 0, y.back());
        CHECKS.due("five went", 0, y.count(0));
        CHECKS.due("one comes", 0, y.hen(0, 0));
        CHECKS.due("back once more", 0, y.back());
        CHECKS.due("she went too", 0, y.count(0));
        Checks.read(y, "lays 1;yields 1;drops 0;");
        y.feed(32);
        y.sheet(0, 0, 1);
        y.back();
        CHECKS.due("a text that came since stays", 2, y.count(3));
        CHECKS.due("the tape stays", 1, y.count(4));
        CHECKS.due("a sheet stays", 1, y.cell(0, 0, 0));
    }

    private static void count() {
        CHECKS.by("29. How many: 0 HENS, 1 ordered twos of which the first is AGAINST the second, 2 EGGS of all, 3 TEXTS, 4 bytes of THE TAPE, 5 THE RULE.");
        int[] least = {0, 0, 0, 1, 0, 0};
        int[] most = {5, 90, 4995, 6, 160, 5};
        LaidByArgument x = allAgainstAll();
        for (int i = 0; i < 5; i++) {
            x.hen(0, 0);
            x.set(3, i, 999);
            Checks.rule(x, "lays 1;yields 1;drops 0;");
        }
        for (int i = 0; i < 160; i++) {
            x.feed(32);
        }
        for (int what = 0; what < 6; what++) {
            CHECKS.due("the least, what " + what, least[what], new LaidByArgument().count(what));
            CHECKS.due("the most, what " + what, most[what], x.count(what));
        }
    }

    private static void sheet() {
        CHECKS.by("30. A SHEET becomes a row of n of a sort, all 0, or missing (sort -1: n does not matter): 1.");
        LaidByArgument x = farm(0, 0, 0);
        for (int sheet = 0; sheet < 4; sheet += 3) {
            for (int sort = 0; sort < 3; sort++) {
                for (int n : new int[] {40, 1, 0, 40}) {
                    CHECKS.due("of " + n, 1, x.sheet(sheet, sort, n));
                    CHECKS.due("all 0", n == 0 ? 0 : 1, x.morning(sheet, 0, 1));
                    CHECKS.due("its last", n == 0 ? -12 : 1, x.cell(sheet, n - 1, 5));
                    CHECKS.due("behind its last", -12, x.cell(sheet, n, 5));
                }
                for (int n : ANY) {
                    CHECKS.due("missing, n " + n, 1, x.sheet(sheet, -1, n));
                    CHECKS.due("it is", -11, x.cell(sheet, 0, 5));
                }
            }
        }
        CHECKS.by("30. n above 40; -14");
        CHECKS.due("41", -2, x.sheet(0, 0, 41));
        CHECKS.due("-1", -14, x.sheet(0, 0, -1));
        CHECKS.due("missing still", -11, x.cell(0, 0, 5));
    }

    private static void cell() {
        CHECKS.by("31. Item i of a SHEET becomes v .. BAD: no such SHEET; -11; -12.");
        LaidByArgument x = farm(0, 0, 0);
        for (int sort = 0; sort < 3; sort++) {
            x.sheet(3, sort, 40);
            CHECKS.due("the first", 1, x.cell(3, 0, 8));
            CHECKS.due("the last", 1, x.cell(3, 39, 9));
            CHECKS.due("these and 0", 769, x.morning(3, 0, 1));
            CHECKS.due("behind the last", -12, x.cell(3, 40, 7));
            CHECKS.due("ahead of the first", -12, x.cell(3, -1, 7));
            CHECKS.due("far", -12, x.cell(3, Integer.MAX_VALUE, 7));
            CHECKS.due("far below", -12, x.cell(3, Integer.MIN_VALUE, 7));
            CHECKS.due("these and 0 still", 769, x.morning(3, 0, 1));
        }
        x.sheet(3, 0, 0);
        CHECKS.due("of none", -12, x.cell(3, 0, 7));
    }

    private static void cellsLowestBits() {
        CHECKS.by("31. (of bytes, shorts its lowest 8, 16 bits)");
        LaidByArgument x = farm(0, 0, 0);
        int[] low = {256, 65536, 0};
        for (int sort = 0; sort < 3; sort++) {
            x.sheet(0, sort, 1);
            x.cell(0, 0, low[sort] + 9);
            CHECKS.due("9, and a bit above, sort " + sort, 512, x.morning(0, 0, 1));
            x.cell(0, 0, -low[sort] + 9);
            CHECKS.due("9, and all bits above, sort " + sort, 512, x.morning(0, 0, 1));
            x.cell(0, 0, low[sort] / 2 + 9);
            CHECKS.due("9, and the highest bit, sort " + sort, sort == 2 ? 512 : -2, x.morning(0, 0, 1));
            x.cell(0, 0, Integer.MIN_VALUE);
            CHECKS.due("the least, sort " + sort, sort == 2 ? -2 : 1, x.morning(0, 0, 1));
            x.cell(0, 0, Integer.MAX_VALUE);
            CHECKS.due("the most, sort " + sort, -2, x.morning(0, 0, 1));
        }
    }

    private static void copy() {
        CHECKS.by("32. n numbers of a SHEET, from item i on, come to another one's item j on (as they were): n. .. -12 (also with n below 0).");
        LaidByArgument x = farm(0, 0, 0);
        for (int sort = 0; sort < 3; sort++) {
            x.sheet(0, sort, 40);
            x.sheet(3, sort, 40);
            x.cell(0, 0, 4);
            x.cell(0, 39, 7);
            CHECKS.due("all", 40, x.copy(0, 0, 3, 0, 40));
            CHECKS.due("all came", 145, x.morning(3, 0, 1));
            CHECKS.due("one more", -12, x.copy(0, 0, 3, 0, 41));
            CHECKS.due("the last", 1, x.copy(0, 39, 3, 0, 1));
            CHECKS.due("it came for the first", 129, x.morning(3, 0, 1));
            CHECKS.due("none, at the ends", 0, x.copy(0, 40, 3, 40, 0));
            CHECKS.due("none, behind the end", -12, x.copy(0, 41, 3, 0, 0));
            CHECKS.due("none, behind the other's end", -12, x.copy(0, 0, 3, 41, 0));
            CHECKS.due("below 0", -12, x.copy(0, 40, 3, 40, -1));
            CHECKS.due("two from the last on", -12, x.copy(0, 39, 3, 0, 2));
            CHECKS.due("two to the last", -12, x.copy(0, 0, 3, 39, 2));
            CHECKS.due("one to the last", 1, x.copy(0, 0, 3, 39, 1));
            CHECKS.due("it came for the last", 16 + 128 + 1, x.morning(3, 0, 1));
        }
        x.sheet(0, 2, 0);
        CHECKS.due("none of none", 0, x.copy(0, 0, 0, 0, 0));
        CHECKS.due("one of none", -12, x.copy(0, 0, 0, 0, 1));
    }

    private static void copyAsTheyWere() {
        CHECKS.by("32. (as they were)");
        for (int sort = 0; sort < 3; sort++) {
            LaidByArgument x = farm(0, 0, 1, 1, 2, 3, 4, 5);
            Checks.rule(x, "lays eggs*2+point;yields 0;drops 0;");
            Checks.row(x, 0, sort, 1, 2, 3, 0, 0);
            Checks.row(x, 1, sort, 1, 1, 2, 3, 0);
            Checks.row(x, 2, sort, 2, 3, 0, 0, 0);
            int up = x.morning(1, 0, 0);
            int down = x.morning(2, 0, 0);
            CHECKS.due("up", 3, x.copy(0, 0, 0, 1, 3));
            CHECKS.due("1 1 2 3 0", up, x.morning(0, 0, 0));
            Checks.row(x, 0, sort, 1, 2, 3, 0, 0);
            CHECKS.due("down", 4, x.copy(0, 1, 0, 0, 4));
            CHECKS.due("2 3 0 0 0", down, x.morning(0, 0, 0));
            CHECKS.due("onto themselves", 5, x.copy(0, 0, 0, 0, 5));
            CHECKS.due("2 3 0 0 0 still", down, x.morning(0, 0, 0));
            CHECKS.due("these differ", 1, up != down ? 1 : 0);
        }
    }

    private static void hens() {
        CHECKS.by("33. from one on, two by two (as of hen()), n of them (0 .. 5): how many came");
        LaidByArgument x = new LaidByArgument();
        x.sheet(0, 0, 40);
        for (int i = 0; i < 5; i++) {
            x.cell(0, 30 + 2 * i, i);
            x.cell(0, 31 + 2 * i, 9 - i);
        }
        CHECKS.due("none", 0, x.hens(0, 0, 30, 0));
        CHECKS.due("none came", 0, x.count(0));
        CHECKS.due("five, the last of forty", 5, x.hens(0, 0, 30, 5));
        for (int i = 0; i < 5; i++) {
            CHECKS.due("kind", i, x.told(i, 4));
            CHECKS.due("number", 9 - i, x.told(i, 1));
        }
        CHECKS.by("33. -12: what stood ahead came");
        LaidByArgument y = new LaidByArgument();
        Checks.row(y, 0, 0, 5, 9, 3, 8, 1);
        CHECKS.due("two and a half", -12, y.hens(0, 0, 0, 3));
        CHECKS.due("two came", 2, y.count(0));
        CHECKS.due("kind of the second", 3, y.told(1, 4));
        CHECKS.due("half a one", -12, y.hens(0, 0, 4, 1));
        CHECKS.due("behind the end", -12, y.hens(0, 0, 5, 1));
        CHECKS.due("ahead of the first", -12, y.hens(0, 0, -1, 1));
        CHECKS.due("far", -12, y.hens(0, 0, Integer.MAX_VALUE, 5));
        CHECKS.due("far below", -12, y.hens(0, 0, Integer.MIN_VALUE, 5));
        CHECKS.due("two are there", 2, y.count(0));
        y.sheet(0, 0, 0);
        CHECKS.due("one of an empty row", -12, y.hens(0, 0, 0, 1));
        CHECKS.due("none of an empty row", 0, y.hens(0, 0, 0, 0));
    }

    private static void hensLeftOut() {
        CHECKS.by("33. (others are left out)");
        LaidByArgument x = new LaidByArgument();
        Checks.row(x, 0, 2, 6, 0, -1, 0, 0, 10, 0, -1, 5, 9);
        CHECKS.due("four that are none such, one that is", 1, x.hens(0, 2, 0, 5));
        CHECKS.due("her kind", 5, x.told(0, 4));
        CHECKS.due("her number", 9, x.told(0, 1));
        x.sheet(0, 2, 10);
        CHECKS.due("four have room", 4, x.hens(0, 2, 0, 5));
        CHECKS.due("none has", 0, x.hens(0, 2, 0, 5));
        CHECKS.due("nor is there a place", -12, x.hens(0, 2, 1, 5));
        CHECKS.due("five", 5, x.count(0));
    }

    private static void taken() {
        CHECKS.by("34. A HEN taken for one of KIND k (0 .. 5), or one under that one (also by others between): the NUMBER.");
        String[] forWhat = {"0", "01", "02", "013", "024", "05"};
        for (int kind = 0; kind < 6; kind++) {
            LaidByArgument x = new LaidByArgument();
            CHECKS.due("nobody", -11, x.taken(0, kind));
            for (int i = 0; i < 5; i++) {
                x.hen(kind, i == 4 ? 9 : 0);
            }
            for (int k = 0; k < 6; k++) {
                boolean is = forWhat[kind].indexOf('0' + k) >= 0;
                CHECKS.due("the first, kind " + kind + " for " + k, is ? 0 : -13, x.taken(0, k));
                CHECKS.due("the last, kind " + kind + " for " + k, is ? 9 : -13, x.taken(4, k));
            }
            CHECKS.due("one behind the last", -11, x.taken(5, kind));
            CHECKS.due("-1", -11, x.taken(-1, kind));
            CHECKS.due("for 6", -2, x.taken(0, 6));
            CHECKS.due("for -1", -2, x.taken(0, -1));
        }
    }
}

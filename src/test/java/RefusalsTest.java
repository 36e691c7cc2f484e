/**
 * Every refusal that the promises name: one beside each bound and those far from it, which of two
 * that could be meant comes first, and that it changes nothing; and that what only asks changes nothing.
 */
public final class RefusalsTest {
    private static final Checks CHECKS = new Checks("RefusalsTest");
    private static final int BAD = -2, STATE = -3, FULL = -4;
    private static final int NOTHING_THERE = -11, OUTSIDE = -12, OTHER_SORT = -13, BELOW_NOTHING = -14;
    private static final long NO = -4611686018427387904L;
    private static final int[] ARGUMENT = beside(9), HEN = beside(2), SHEET = beside(3), YES = beside(1);
    private static final int MISSING = 3, ELEVEN = 2, OF_NO_ARGUMENT = 1;

    private interface Call {
        long on(LaidByArgument x);
    }

    private interface Farm {
        LaidByArgument made();
    }

    public static void main(String[] args) {
        argumentsAndHens();
        texts();
        putting();
        whichStand();
        whatWouldBeBest();
        whatWasTold();
        chances();
        sheetsAndCells();
        copies();
        hensBySheet();
        takenFor();
        whatIsFull();
        whatComesFirst();
        whatOnlyAsks();
        CHECKS.end();
    }

    private static int[] beside(int most) {
        return new int[] {Integer.MIN_VALUE, -1, most + 1, Integer.MAX_VALUE};
    }

    /** Three HENS, an IMAGE that is otherwise, a RULE of its own, a TAPE that lacks its end, three SHEETS. */
    private static LaidByArgument farm() {
        LaidByArgument x = new LaidByArgument();
        x.against(0, 1, 1);
        x.against(2, 1, 1);
        x.against(1, 0, 1);
        x.hen(1, 3);
        x.set(2, 0, 6);
        x.set(3, 0, 17);
        x.set(0, 0, 2);
        x.image();
        Checks.rule(x, "lays 3; yields 1; drops 1;");
        x.against(0, 9, 1);
        x.hen(0, 4);
        x.hen(5, 2);
        x.set(0, 0, 5);
        x.set(1, 0, 7);
        x.set(2, 0, 5);
        x.set(2, 1, 7);
        x.set(3, 1, 20);
        Checks.feedAll(x, "lays 8;yields 0;drops 0");
        Checks.row(x, 0, 2, 1, 2, 3);
        Checks.row(x, OF_NO_ARGUMENT, 2, 4, 10);
        Checks.row(x, ELEVEN, 1, 6, 0, 0, 1, 0, 0, 0, 0, 0, 0, 9);
        return x;
    }

    private static void refused(String call, long due, Call it) {
        refusedBy(RefusalsTest::farm, call, due, it);
    }

    private static void refusedBy(Farm farm, String call, long due, Call it) {
        LaidByArgument x = farm.made();
        CHECKS.due(call, due, it.on(x));
        CHECKS.due(call + ", which changes nothing,", 1, Depths.of(x).equals(Depths.of(farm.made())) ? 1 : 0);
    }

    private static void argumentsAndHens() {
        CHECKS.by("2. BAD: no such, one and the same, on.");
        for (int w : ARGUMENT) {
            refused("against(" + w + ", 5, 1)", BAD, x -> x.against(w, 5, 1));
            refused("against(5, " + w + ", 1)", BAD, x -> x.against(5, w, 1));
            refused("against(0, " + w + ", 0)", BAD, x -> x.against(0, w, 0));
        }
        for (int w : YES) {
            refused("against(0, 1, " + w + ")", BAD, x -> x.against(0, 1, w));
        }
        for (int point = 0; point < 10; point++) {
            int same = point;
            refused("against(" + point + " twice, 1)", BAD, x -> x.against(same, same, 1));
            refused("against(" + point + " twice, 0)", BAD, x -> x.against(same, same, 0));
        }
        CHECKS.by("3. BAD.");
        for (int w : beside(3)) {
            refused("set(" + w + ", 0, 0)", BAD, x -> x.set(w, 0, 0));
        }
        int[] most = {999, 9, 1023, 999};
        for (int what = 0; what < 4; what++) {
            int it = what;
            for (int w : beside(most[what])) {
                refused("set(" + what + ", 0, " + w + ")", BAD, x -> x.set(it, 0, w));
            }
            for (int w : what == 0 ? new int[0] : HEN) {
                refused("set(" + what + ", " + w + ", 0)", BAD, x -> x.set(it, w, 0));
            }
        }
        CHECKS.by("4. BAD; FULL.");
        for (int w : beside(5)) {
            refused("hen(" + w + ", 0)", BAD, x -> x.hen(w, 0));
        }
        for (int w : beside(9)) {
            refused("hen(0, " + w + ")", BAD, x -> x.hen(0, w));
        }
        CHECKS.by("5. BAD.");
        for (int w : beside(7)) {
            refused("told(0, " + w + ")", BAD, x -> x.told(0, w));
        }
        for (int what = 1; what < 8; what++) {
            int it = what;
            for (int w : what < 6 ? HEN : ARGUMENT) {
                refused("told(" + w + ", " + what + ")", BAD, x -> x.told(w, it));
            }
        }
        CHECKS.by("6. BAD.");
        for (int w : HEN) {
            refused("asks(" + w + ", 0, 0)", BAD, x -> x.asks(w, 0, 0));
        }
        for (int w : ARGUMENT) {
            refused("asks(0, " + w + ", 0)", BAD, x -> x.asks(0, w, 0));
        }
        for (int w : beside(3)) {
            refused("asks(0, 0, " + w + ")", BAD, x -> x.asks(0, 0, w));
        }
    }

    private static void texts() {
        CHECKS.by("7. BAD; FULL.");
        for (int w : beside(255)) {
            refused("feed(" + w + ")", BAD, x -> x.feed(w));
        }
        CHECKS.by("9. BAD.");
        for (int w : beside(1)) {
            refused("force(" + w + ") of two", BAD, x -> x.force(w));
        }
        refused("force(5) of two", BAD, x -> x.force(5));
        refused("force(6) of two", BAD, x -> x.force(6));
    }

    private static void putting() {
        CHECKS.by("10. BAD.");
        for (int w : HEN) {
            refused("argue(" + w + ", 0)", BAD, x -> x.argue(w, 0));
        }
        for (int w : ARGUMENT) {
            refused("argue(0, " + w + ")", BAD, x -> x.argue(0, w));
        }
        CHECKS.by("12. BAD: SHEET, hen, what; -11; BAD: it tells one that is no ARGUMENT.");
        for (int w : SHEET) {
            refused("morning(" + w + ", 0, 0)", BAD, x -> x.morning(w, 0, 0));
        }
        for (int w : HEN) {
            refused("morning(0, " + w + ", 0)", BAD, x -> x.morning(0, w, 0));
        }
        for (int w : beside(3)) {
            refused("morning(0, 0, " + w + ")", BAD, x -> x.morning(0, 0, w));
        }
        for (int what = 0; what < 4; what++) {
            int it = what;
            refused("morning(missing, 0, " + what + ")", NOTHING_THERE, x -> x.morning(MISSING, 0, it));
            refused("morning(of 4 and 10, 0, " + what + ")", BAD, x -> x.morning(OF_NO_ARGUMENT, 0, it));
        }
        CHECKS.by("13. BAD, -11, BAD likewise.");
        for (int w : SHEET) {
            refused("teach(" + w + ", 0)", BAD, x -> x.teach(w, 0));
        }
        for (int w : HEN) {
            refused("teach(0, " + w + ")", BAD, x -> x.teach(0, w));
        }
        refused("teach(missing, 0)", NOTHING_THERE, x -> x.teach(MISSING, 0));
        refused("teach(of 4 and 10, 0)", BAD, x -> x.teach(OF_NO_ARGUMENT, 0));
        CHECKS.by("14. BAD.");
        for (int w : HEN) {
            refused("nights(" + w + ", 0, 1, 0)", BAD, x -> x.nights(w, 0, 1, 0));
        }
        for (int w : ARGUMENT) {
            refused("nights(0, " + w + ", 0, 0)", BAD, x -> x.nights(0, w, 0, 0));
        }
        for (int w : beside(30)) {
            refused("nights(0, 0, " + w + ", 0)", BAD, x -> x.nights(0, 0, w, 0));
        }
        for (int w : YES) {
            refused("nights(0, 0, 1, " + w + ")", BAD, x -> x.nights(0, 0, 1, w));
        }
    }

    private static void whichStand() {
        CHECKS.by("15. BAD.");
        for (int w : beside(5)) {
            refused("field(" + w + ")", BAD, x -> x.field(w));
        }
        CHECKS.by("16. BAD: set (0 .. 1023), what.");
        for (int w : beside(1023)) {
            refused("sets(" + w + ", 0)", BAD, x -> x.sets(w, 0));
        }
        for (int w : beside(2)) {
            refused("sets(0, " + w + ")", BAD, x -> x.sets(0, w));
        }
        CHECKS.by("17. NO: part.");
        for (int w : YES) {
            refused("share(" + w + ")", NO, x -> x.share(w));
        }
    }

    private static void whatWouldBeBest() {
        CHECKS.by("18. BAD.");
        for (int w : HEN) {
            refused("best(" + w + ", 0)", BAD, x -> x.best(w, 0));
        }
        for (int w : beside(3)) {
            refused("best(0, " + w + ")", BAD, x -> x.best(0, w));
        }
        CHECKS.by("19. BAD: hen, n, what.");
        for (int w : HEN) {
            refused("three(" + w + ", 1, 0)", BAD, x -> x.three(w, 1, 0));
        }
        for (int w : beside(3)) {
            refused("three(0, " + w + ", 0)", BAD, x -> x.three(0, w, 0));
        }
        for (int w : YES) {
            refused("three(0, 1, " + w + ")", BAD, x -> x.three(0, 1, w));
        }
        CHECKS.by("20. BAD.");
        for (int w : ARGUMENT) {
            refused("whom(" + w + ", 0)", BAD, x -> x.whom(w, 0));
        }
        for (int w : YES) {
            refused("whom(0, " + w + ")", BAD, x -> x.whom(0, w));
        }
        CHECKS.by("21. BAD; NONE.");
        for (int w : HEN) {
            refused("win(" + w + ", 0)", BAD, x -> x.win(w, 0));
        }
        for (int w : ARGUMENT) {
            refused("win(0, " + w + ")", BAD, x -> x.win(0, w));
        }
        CHECKS.by("22. BAD: no such two, one and the same.");
        for (int w : HEN) {
            refused("agree(" + w + ", 0)", BAD, x -> x.agree(w, 0));
            refused("agree(0, " + w + ")", BAD, x -> x.agree(0, w));
        }
        for (int hen = 0; hen < 3; hen++) {
            int same = hen;
            refused("agree(" + hen + " twice)", BAD, x -> x.agree(same, same));
        }
    }

    private static void whatWasTold() {
        CHECKS.by("23. BAD: SHEET, no such HEN, what; -11; BAD: it tells more than 10.");
        for (int w : SHEET) {
            refused("tells(" + w + ", 0, 0)", BAD, x -> x.tells(w, 0, 0));
        }
        for (int w : HEN) {
            refused("tells(0, " + w + ", 0)", BAD, x -> x.tells(0, w, 0));
            refused("tells(0, " + w + ", 7)", BAD, x -> x.tells(0, w, 7));
        }
        for (int w : beside(7)) {
            refused("tells(0, 0, " + w + ")", BAD, x -> x.tells(0, 0, w));
        }
        for (int what = 0; what < 8; what++) {
            int it = what;
            refused("tells(missing, 0, " + what + ")", NOTHING_THERE, x -> x.tells(MISSING, 0, it));
            refused("tells(of eleven, 0, " + what + ")", BAD, x -> x.tells(ELEVEN, 0, it));
        }
        CHECKS.by("24. BAD.");
        for (int w : SHEET) {
            refused("film(" + w + ", 0)", BAD, x -> x.film(w, 0));
        }
        for (int w : HEN) {
            refused("film(0, " + w + ")", BAD, x -> x.film(0, w));
            refused("film(missing, " + w + ")", BAD, x -> x.film(MISSING, w));
        }
        CHECKS.by("25. BAD: no such HEN, n.");
        for (int w : HEN) {
            refused("drawn(1, " + w + ", 1)", BAD, x -> x.drawn(1, w, 1));
        }
        for (int w : beside(60)) {
            refused("drawn(1, 0, " + w + ")", BAD, x -> x.drawn(1, 0, w));
        }
        CHECKS.by("29. BAD.");
        for (int w : beside(5)) {
            refused("count(" + w + ")", BAD, x -> x.count(w));
        }
    }

    private static void chances() {
        CHECKS.by("26. NO: m, no such HEN, k, part.");
        for (int w : beside(20)) {
            refused("chance(1, " + w + ", 0, 0, 0)", NO, x -> x.chance(1, w, 0, 0, 0));
        }
        refused("chance(1, 0, 0, 0, 0)", NO, x -> x.chance(1, 0, 0, 0, 0));
        refused("chance(1, 0, 0, 0, 1)", NO, x -> x.chance(1, 0, 0, 0, 1));
        for (int w : HEN) {
            refused("chance(1, 1, " + w + ", 0, 0)", NO, x -> x.chance(1, 1, w, 0, 0));
        }
        for (int w : beside(999)) {
            refused("chance(1, 1, 0, " + w + ", 0)", NO, x -> x.chance(1, 1, 0, w, 0));
        }
        for (int w : YES) {
            refused("chance(1, 1, 0, 0, " + w + ")", NO, x -> x.chance(1, 1, 0, 0, w));
        }
    }

    private static void sheetsAndCells() {
        CHECKS.by("30. BAD: no such SHEET, sort; n above 40; -14.");
        for (int w : SHEET) {
            refused("sheet(" + w + ", 0, 1)", BAD, x -> x.sheet(w, 0, 1));
            refused("sheet(" + w + ", -1, 1)", BAD, x -> x.sheet(w, -1, 1));
        }
        int[] noSorts = {Integer.MIN_VALUE, -2, 3, Integer.MAX_VALUE};
        for (int w : noSorts) {
            refused("sheet(0, " + w + ", 1)", BAD, x -> x.sheet(0, w, 1));
        }
        int[] tooMany = {41, Integer.MAX_VALUE};
        int[] tooFew = {-1, Integer.MIN_VALUE};
        for (int sort = 0; sort < 3; sort++) {
            int it = sort;
            for (int w : tooMany) {
                refused("sheet(0, " + sort + ", " + w + ")", BAD, x -> x.sheet(0, it, w));
            }
            for (int w : tooFew) {
                refused("sheet(0, " + sort + ", " + w + ")", BELOW_NOTHING, x -> x.sheet(0, it, w));
            }
        }
        CHECKS.by("31. BAD: no such SHEET; -11; -12.");
        for (int w : SHEET) {
            refused("cell(" + w + ", 0, 7)", BAD, x -> x.cell(w, 0, 7));
        }
        for (int i = -1; i < 4; i++) {
            int at = i;
            refused("cell(missing, " + i + ", 7)", NOTHING_THERE, x -> x.cell(MISSING, at, 7));
        }
        for (int w : beside(2)) {
            refused("cell(0, " + w + ", 7) of three", OUTSIDE, x -> x.cell(0, w, 7));
        }
        for (int w : beside(10)) {
            refused("cell(2, " + w + ", 7) of eleven", OUTSIDE, x -> x.cell(ELEVEN, w, 7));
        }
    }

    private static void copies() {
        CHECKS.by("32. BAD: no such SHEET; -11; -13: they are of unlike sorts; -12 (also with n below 0).");
        for (int w : SHEET) {
            refused("copy(" + w + ", 0, 0, 0, 1)", BAD, x -> x.copy(w, 0, 0, 0, 1));
            refused("copy(0, 0, " + w + ", 0, 1)", BAD, x -> x.copy(0, 0, w, 0, 1));
        }
        for (int n = -1; n < 2; n++) {
            int some = n;
            refused("copy(missing, 0, 0, 0, " + n + ")", NOTHING_THERE, x -> x.copy(MISSING, 0, 0, 0, some));
            refused("copy(0, 0, missing, 0, " + n + ")", NOTHING_THERE, x -> x.copy(0, 0, MISSING, 0, some));
            refused("copy(missing twice, " + n + ")", NOTHING_THERE, x -> x.copy(MISSING, 0, MISSING, 0, some));
            refused("copy(0, 0, 2, 0, " + n + ")", OTHER_SORT, x -> x.copy(0, 0, 2, 0, some));
            refused("copy(2, 0, 0, 0, " + n + ")", OTHER_SORT, x -> x.copy(2, 0, 0, 0, some));
        }
        for (int w : beside(2)) {
            refused("copy(0, " + w + ", 1, 0, 1)", OUTSIDE, x -> x.copy(0, w, 1, 0, 1));
        }
        for (int w : beside(1)) {
            refused("copy(0, 0, 1, " + w + ", 1)", OUTSIDE, x -> x.copy(0, 0, 1, w, 1));
        }
        for (int w : beside(2)) {
            refused("copy(0, 0, 1, 0, " + w + ")", OUTSIDE, x -> x.copy(0, 0, 1, 0, w));
            refused("copy(1, 0, 0, 0, " + w + ")", OUTSIDE, x -> x.copy(1, 0, 0, 0, w));
            refused("copy(0, 1, 0, 0, " + w + ")", OUTSIDE, x -> x.copy(0, 1, 0, 0, w));
            refused("copy(0, 0, 0, 1, " + w + ")", OUTSIDE, x -> x.copy(0, 0, 0, 1, w));
        }
        refused("copy(0, 2, 1, 0, 2)", OUTSIDE, x -> x.copy(0, 2, 1, 0, 2));
        refused("copy(0, 0, 1, 1, 2)", OUTSIDE, x -> x.copy(0, 0, 1, 1, 2));
        refused("copy(0, 4, 1, 0, 0)", OUTSIDE, x -> x.copy(0, 4, 1, 0, 0));
        refused("copy(0, 0, 1, 3, 0)", OUTSIDE, x -> x.copy(0, 0, 1, 3, 0));
        refused("copy(0, -1, 1, 0, 0)", OUTSIDE, x -> x.copy(0, -1, 1, 0, 0));
        refused("copy(0, 0, 1, -1, 0)", OUTSIDE, x -> x.copy(0, 0, 1, -1, 0));
        int least = Integer.MIN_VALUE;
        int most = Integer.MAX_VALUE;
        refused("copy(0, most, 1, most, most)", OUTSIDE, x -> x.copy(0, most, 1, most, most));
        refused("copy(0, least, 1, least, least)", OUTSIDE, x -> x.copy(0, least, 1, least, least));
        refused("copy(0, 3, 1, 2, most)", OUTSIDE, x -> x.copy(0, 3, 1, 2, most));
        refused("copy(0, 3, 1, 2, least)", OUTSIDE, x -> x.copy(0, 3, 1, 2, least));
    }

    private static void hensBySheet() {
        CHECKS.by("33. BAD: no such SHEET, sort, n; -13; -11; -12: what stood ahead came.");
        for (int w : SHEET) {
            refused("hens(" + w + ", 2, 0, 1)", BAD, x -> x.hens(w, 2, 0, 1));
        }
        for (int w : beside(2)) {
            refused("hens(0, " + w + ", 0, 1)", BAD, x -> x.hens(0, w, 0, 1));
            refused("hens(missing, " + w + ", 0, 1)", BAD, x -> x.hens(MISSING, w, 0, 1));
        }
        for (int w : beside(5)) {
            refused("hens(0, 2, 0, " + w + ")", BAD, x -> x.hens(0, 2, 0, w));
        }
        for (int n = 0; n < 2; n++) {
            int some = n;
            refused("hens(0, 0, 0, " + n + ") of ints", OTHER_SORT, x -> x.hens(0, 0, 0, some));
            refused("hens(0, 1, 0, " + n + ") of ints", OTHER_SORT, x -> x.hens(0, 1, 0, some));
            refused("hens(2, 0, 0, " + n + ") of shorts", OTHER_SORT, x -> x.hens(2, 0, 0, some));
            refused("hens(2, 2, 0, " + n + ") of shorts", OTHER_SORT, x -> x.hens(2, 2, 0, some));
            for (int sort = 0; sort < 3; sort++) {
                int it = sort;
                refused("hens(missing, " + sort + ", 0, " + n + ")", NOTHING_THERE, x -> x.hens(MISSING, it, 0, some));
            }
        }
        for (int w : beside(1)) {
            refused("hens(0, 2, " + w + ", 1) of three", OUTSIDE, x -> x.hens(0, 2, w, 1));
            refused("hens(0, 2, " + w + ", 5) of three", OUTSIDE, x -> x.hens(0, 2, w, 5));
        }
    }

    private static void takenFor() {
        CHECKS.by("34. BAD: k; -11: no such HEN; -13.");
        for (int w : beside(5)) {
            refused("taken(0, " + w + ")", BAD, x -> x.taken(0, w));
        }
        for (int w : HEN) {
            refused("taken(" + w + ", 0)", NOTHING_THERE, x -> x.taken(w, 0));
        }
        int[] noPullet = {2, 3, 4, 5};
        for (int k : noPullet) {
            refused("taken(0, " + k + ") of a PULLET", OTHER_SORT, x -> x.taken(0, k));
        }
    }

    private static LaidByArgument full() {
        LaidByArgument x = new LaidByArgument();
        for (int i = 0; i < 5; i++) {
            x.hen(1, i);
            Checks.read(x, "lays " + i + ";yields 1;drops 1;");
        }
        x.set(2, 0, 1000);
        x.set(2, 4, 7);
        x.set(0, 0, 999);
        Checks.feedAll(x, "lays 8;yields 1;drops 0");
        return x;
    }

    private static LaidByArgument fullTape() {
        LaidByArgument x = new LaidByArgument();
        x.hen(1, 0);
        Checks.feedAll(x, "lays 8;yields 1;drops 0;");
        for (int i = x.count(4); i < 160; i++) {
            x.feed(i % 2 == 0 ? 32 : 10);
        }
        return x;
    }

    private static void whatIsFull() {
        CHECKS.by("4. FULL");
        refusedBy(RefusalsTest::full, "hen(0, 0)", FULL, x -> x.hen(0, 0));
        refusedBy(RefusalsTest::full, "hen(5, 9)", FULL, x -> x.hen(5, 9));
        CHECKS.by("7. FULL");
        refusedBy(RefusalsTest::fullTape, "feed(32)", FULL, x -> x.feed(32));
        refusedBy(RefusalsTest::fullTape, "feed(0)", FULL, x -> x.feed(0));
        CHECKS.by("8. FULL (ahead of all): no TEXT more has room (THE TAPE stays).");
        refusedBy(RefusalsTest::full, "text()", FULL, LaidByArgument::text);
        CHECKS.by("9. BAD.");
        refusedBy(RefusalsTest::full, "force(6) of six", BAD, x -> x.force(6));
        CHECKS.by("11. STATE: DAY is 999.");
        refusedBy(RefusalsTest::full, "night()", STATE, LaidByArgument::night);
        CHECKS.by("28. STATE: there is none.");
        refusedBy(RefusalsTest::full, "back()", STATE, LaidByArgument::back);
    }

    private static void whatComesFirst() {
        CHECKS.by("Refusals, the first that the call's words name");
        refusedBy(RefusalsTest::full, "BAD ahead of FULL: hen(6, 0)", BAD, x -> x.hen(6, 0));
        refusedBy(RefusalsTest::full, "BAD ahead of FULL: hen(0, 10)", BAD, x -> x.hen(0, 10));
        refusedBy(RefusalsTest::full, "BAD ahead of FULL: hen(-1, -1)", BAD, x -> x.hen(-1, -1));
        refusedBy(RefusalsTest::fullTape, "BAD ahead of FULL: feed(256)", BAD, x -> x.feed(256));
        refusedBy(RefusalsTest::fullTape, "BAD ahead of FULL: feed(-1)", BAD, x -> x.feed(-1));
        refused("BAD ahead of -11: morning(missing, 3, 0)", BAD, x -> x.morning(MISSING, 3, 0));
        refused("BAD ahead of -11: morning(missing, 0, 4)", BAD, x -> x.morning(MISSING, 0, 4));
        refused("BAD ahead of -11: teach(missing, 3)", BAD, x -> x.teach(MISSING, 3));
        refused("BAD ahead of -11: tells(missing, 3, 0)", BAD, x -> x.tells(MISSING, 3, 0));
        refused("BAD ahead of -11: tells(missing, 0, 8)", BAD, x -> x.tells(MISSING, 0, 8));
        refused("BAD ahead of -14: sheet(4, 0, -1)", BAD, x -> x.sheet(4, 0, -1));
        refused("BAD ahead of -14: sheet(0, 3, -1)", BAD, x -> x.sheet(0, 3, -1));
        refused("BAD ahead of -14: sheet(0, -2, -1)", BAD, x -> x.sheet(0, -2, -1));
        refused("BAD ahead of -12: cell(4, -1, 0)", BAD, x -> x.cell(4, -1, 0));
        refused("-11 ahead of -12: cell(missing, -1, 0)", NOTHING_THERE, x -> x.cell(MISSING, -1, 0));
        refused("BAD ahead of -11: copy(missing, 0, 4, 0, 1)", BAD, x -> x.copy(MISSING, 0, 4, 0, 1));
        refused("BAD ahead of -11: copy(4, 0, missing, 0, 1)", BAD, x -> x.copy(4, 0, MISSING, 0, 1));
        refused("BAD ahead of -12: copy(4, -1, 0, -1, -1)", BAD, x -> x.copy(4, -1, 0, -1, -1));
        refused("-11 ahead of -12: copy(missing, -1, 0, -1, -1)", NOTHING_THERE, x -> x.copy(MISSING, -1, 0, -1, -1));
        refused("-11 ahead of -12: copy(0, -1, missing, -1, -1)", NOTHING_THERE, x -> x.copy(0, -1, MISSING, -1, -1));
        refused("-13 ahead of -12: copy(0, -1, 2, -1, -1)", OTHER_SORT, x -> x.copy(0, -1, 2, -1, -1));
        refused("-13 ahead of -12: copy(2, 99, 0, 99, 99)", OTHER_SORT, x -> x.copy(2, 99, 0, 99, 99));
        refused("BAD ahead of -13: hens(0, 0, 0, 6)", BAD, x -> x.hens(0, 0, 0, 6));
        refused("BAD ahead of -13: hens(0, 3, 0, 0)", BAD, x -> x.hens(0, 3, 0, 0));
        refused("BAD ahead of -11: hens(missing, 0, 0, 6)", BAD, x -> x.hens(MISSING, 0, 0, 6));
        refused("BAD ahead of -12: hens(0, 2, -1, 6)", BAD, x -> x.hens(0, 2, -1, 6));
        refused("-13 ahead of -12: hens(0, 0, -1, 5)", OTHER_SORT, x -> x.hens(0, 0, -1, 5));
        refused("-11 ahead of -12: hens(missing, 0, -1, 5)", NOTHING_THERE, x -> x.hens(MISSING, 0, -1, 5));
        refused("BAD ahead of -11: taken(3, 6)", BAD, x -> x.taken(3, 6));
        refused("BAD ahead of -11: taken(-1, -1)", BAD, x -> x.taken(-1, -1));
    }

    private static void whatOnlyAsks() {
        CHECKS.by("A MORNING of one, in thought .. n NIGHTS (0 .. 30), in thought .. were they THE RULE");
        String ahead = Depths.of(farm());
        for (int what = 0; what < 8; what++) {
            for (int hen = 0; hen < 3; hen++) {
                LaidByArgument x = farm();
                x.told(hen, what);
                x.asks(hen, 1, what);
                x.morning(0, hen, what);
                x.nights(hen, 1, 30, what);
                x.field(what);
                x.sets(7, what);
                x.share(what);
                x.best(hen, what);
                x.three(hen, what, 0);
                x.three(hen, what, 1);
                x.whom(1, what);
                x.win(hen, what);
                x.agree(hen, what);
                x.tells(0, hen, what);
                x.drawn(what, hen, 60);
                x.chance(what, 20, hen, 0, 0);
                x.count(what);
                x.taken(hen, what);
                CHECKS.due("all that only asks, of hen " + hen + ", what " + what + ", changes nothing,", 1,
                    Depths.of(x).equals(ahead) ? 1 : 0);
            }
        }
    }
}

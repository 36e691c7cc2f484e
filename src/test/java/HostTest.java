/** Promises 30 to 34: the host's sheets. */
public final class HostTest {
    private static final Checks CHECKS = new Checks("HostTest");
    private static final int[] FAR = {Integer.MIN_VALUE, Integer.MIN_VALUE + 1, Integer.MAX_VALUE - 1, Integer.MAX_VALUE};

    public static void main(String[] args) {
        sheets();
        sheetsRefuse();
        cells();
        cellsKeepTheirBits();
        copies();
        copiesOntoThemselves();
        copiesRefuse();
        hensBySheet();
        hensBySheetWhenFull();
        hensRefuse();
        takenFor();
        CHECKS.end();
    }

    /** What she holds behind a MORNING by it tells which ARGUMENTS are on a sheet. */
    private static int onSheet(LaidByArgument x, int sheet) {
        return x.morning(sheet, 0, 1);
    }

    private static void sheets() {
        LaidByArgument x = new LaidByArgument();
        x.hen(0, 0);
        for (int sort = 0; sort < 3; sort++) {
            for (int sheet = 0; sheet < 4; sheet++) {
                CHECKS.due("sheet(" + sheet + ", " + sort + ", 40)", 1, x.sheet(sheet, sort, 40));
                CHECKS.due("its last", 1, x.cell(sheet, 39, 5));
                CHECKS.due("its first", 1, x.cell(sheet, 0, 6));
                CHECKS.due("its sort", 0, x.hens(sheet, sort, 0, 0));
                CHECKS.due("0, 5 and 6", 97, onSheet(x, sheet));
                CHECKS.due("another", 1, x.sheet(sheet, sort, 40));
                CHECKS.due("all 0 again", 1, onSheet(x, sheet));
                CHECKS.due("of none", 1, x.sheet(sheet, sort, 0));
                CHECKS.due("it has none", -12, x.cell(sheet, 0, 5));
                CHECKS.due("missing", 1, x.sheet(sheet, -1, Integer.MAX_VALUE));
                CHECKS.due("it is", -11, x.cell(sheet, 0, 5));
                CHECKS.due("missing again", 1, x.sheet(sheet, -1, Integer.MIN_VALUE));
            }
        }
    }

    private static void sheetsRefuse() {
        LaidByArgument x = new LaidByArgument();
        x.hen(0, 0);
        Checks.row(x, 0, 0, 3);
        CHECKS.due("sheet 4", -2, x.sheet(4, 0, 1));
        CHECKS.due("sheet -1", -2, x.sheet(-1, 0, 1));
        CHECKS.due("sheet 4, missing", -2, x.sheet(4, -1, 1));
        CHECKS.due("sort 3", -2, x.sheet(0, 3, 1));
        CHECKS.due("sort -2", -2, x.sheet(0, -2, 1));
        CHECKS.due("n 41", -2, x.sheet(0, 0, 41));
        CHECKS.due("n most", -2, x.sheet(0, 0, Integer.MAX_VALUE));
        CHECKS.due("n -1", -14, x.sheet(0, 0, -1));
        CHECKS.due("n least", -14, x.sheet(0, 0, Integer.MIN_VALUE));
        CHECKS.due("sort ahead of n", -2, x.sheet(0, 3, -1));
        CHECKS.due("sheet ahead of n", -2, x.sheet(4, 0, -1));
        CHECKS.due("it stays", 8, onSheet(x, 0));
    }

    private static void cells() {
        LaidByArgument x = new LaidByArgument();
        x.hen(0, 0);
        x.sheet(1, 2, 3);
        CHECKS.due("cell 0", 1, x.cell(1, 0, 1));
        CHECKS.due("cell 2", 1, x.cell(1, 2, 9));
        CHECKS.due("0, 1, 9", 515, onSheet(x, 1));
        CHECKS.due("cell 3", -12, x.cell(1, 3, 1));
        CHECKS.due("cell -1", -12, x.cell(1, -1, 1));
        for (int far : FAR) {
            CHECKS.due("cell " + far, -12, x.cell(1, far, 1));
            CHECKS.due("of sheet " + far, -2, x.cell(far, 0, 1));
        }
        CHECKS.due("of no such sheet", -2, x.cell(4, 9, 1));
        CHECKS.due("of sheet -1", -2, x.cell(-1, 0, 1));
        CHECKS.due("of a missing one", -11, x.cell(0, 9, 1));
        CHECKS.due("0, 1, 9 still", 515, onSheet(x, 1));
    }

    private static void cellsKeepTheirBits() {
        LaidByArgument x = new LaidByArgument();
        x.hen(0, 0);
        int[] bits = {8, 16, 32};
        for (int sort = 0; sort < 3; sort++) {
            x.sheet(0, sort, 1);
            for (int bit = 4; bit < 32; bit++) {
                x.cell(0, 0, 1 << bit | 3);
                CHECKS.due("sort " + sort + ", bit " + bit, bit >= bits[sort] ? 8 : -2, onSheet(x, 0));
            }
            x.cell(0, 0, -1);
            CHECKS.due("sort " + sort + ", -1", -2, onSheet(x, 0));
        }
    }

    private static void copies() {
        LaidByArgument x = new LaidByArgument();
        x.hen(0, 0);
        for (int sort = 0; sort < 3; sort++) {
            Checks.row(x, 0, sort, 1, 2, 3, 4);
            Checks.row(x, 1, sort, 9, 9, 9);
            CHECKS.due("two", 2, x.copy(0, 1, 1, 0, 2));
            CHECKS.due("2, 3, 9", 512 + 12, onSheet(x, 1));
            CHECKS.due("1, 2, 3, 4 still", 30, onSheet(x, 0));
            CHECKS.due("all of the first", 3, x.copy(1, 0, 0, 1, 3));
            CHECKS.due("1, 2, 3, 9", 512 + 14, onSheet(x, 0));
            CHECKS.due("none, at the ends", 0, x.copy(0, 4, 1, 3, 0));
            CHECKS.due("none, at 0", 0, x.copy(0, 0, 1, 0, 0));
        }
    }

    private static void copiesOntoThemselves() {
        LaidByArgument x = new LaidByArgument();
        Checks.rule(x, "lays point*2; yields 0; drops 0;");
        x.hen(0, 0);
        x.against(0, 1, 1);
        x.against(0, 2, 1);
        x.against(0, 3, 1);
        x.against(0, 4, 1);
        x.set(2, 0, 1);
        Checks.row(x, 0, 2, 1, 2, 3, 4);
        CHECKS.due("up, as they were", 3, x.copy(0, 0, 0, 1, 3));
        CHECKS.due("1, 1, 2, 3", 14, x.morning(0, 0, 0));
        Checks.row(x, 0, 2, 1, 2, 3, 4);
        CHECKS.due("down, as they were", 3, x.copy(0, 1, 0, 0, 3));
        CHECKS.due("2, 3, 4, 4", 26, x.morning(0, 0, 0));
    }

    private static void copiesRefuse() {
        LaidByArgument x = new LaidByArgument();
        x.hen(0, 0);
        Checks.row(x, 0, 0, 1, 2, 3);
        Checks.row(x, 1, 0, 4, 5);
        Checks.row(x, 2, 1, 6, 7);
        CHECKS.due("no such sheet, first", -2, x.copy(4, 0, 3, 0, -1));
        CHECKS.due("no such sheet, second", -2, x.copy(3, 0, 4, 0, -1));
        CHECKS.due("sheet -1, first", -2, x.copy(-1, 0, 0, 0, 1));
        CHECKS.due("sheet -1, second", -2, x.copy(0, 0, -1, 0, 1));
        CHECKS.due("missing, first", -11, x.copy(3, 0, 0, 0, -1));
        CHECKS.due("missing, second", -11, x.copy(0, 0, 3, 0, -1));
        CHECKS.due("unlike sorts", -13, x.copy(0, 0, 2, 0, 1));
        CHECKS.due("unlike sorts, ahead of places", -13, x.copy(0, 9, 2, 9, -1));
        CHECKS.due("n -1", -12, x.copy(0, 0, 1, 0, -1));
        CHECKS.due("i -1", -12, x.copy(0, -1, 1, 0, 1));
        CHECKS.due("j -1", -12, x.copy(0, 0, 1, -1, 1));
        CHECKS.due("too many of the first", -12, x.copy(1, 1, 0, 0, 2));
        CHECKS.due("too many for the second", -12, x.copy(0, 0, 1, 0, 3));
        CHECKS.due("too many for its end", -12, x.copy(0, 0, 1, 1, 2));
        CHECKS.due("none, outside the first", -12, x.copy(0, 4, 1, 0, 0));
        CHECKS.due("none, outside the second", -12, x.copy(0, 0, 1, 3, 0));
        for (int far : FAR) {
            CHECKS.due("i " + far, -12, x.copy(0, far, 1, 0, 1));
            CHECKS.due("j " + far, -12, x.copy(0, 0, 1, far, 1));
            CHECKS.due("n " + far, -12, x.copy(0, 0, 1, 0, far));
            CHECKS.due("i, n " + far, -12, x.copy(0, far, 1, 0, far));
            CHECKS.due("j, n " + far, -12, x.copy(0, 0, 1, far, far));
            CHECKS.due("i 1, n " + far, -12, x.copy(0, 1, 1, 1, far));
        }
        CHECKS.due("1, 2, 3 still", 14, onSheet(x, 0));
        CHECKS.due("4, 5 still", 48, onSheet(x, 1));
    }

    private static void hensBySheet() {
        LaidByArgument x = new LaidByArgument();
        Checks.row(x, 0, 1, 77, 4, 8, 6, 0, 5, 10, -1, 3, 2, 9, 1);
        CHECKS.due("none", 0, x.hens(0, 1, 0, 0));
        CHECKS.due("one by item 1 on, two left out", 1, x.hens(0, 1, 1, 3));
        CHECKS.due("kind 4", 4, x.told(0, 4));
        CHECKS.due("number 8", 8, x.told(0, 1));
        CHECKS.due("one left out, one, one behind the end", -12, x.hens(0, 1, 7, 3));
        CHECKS.due("what stood ahead came: kind", 2, x.told(1, 4));
        CHECKS.due("what stood ahead came: number", 9, x.told(1, 1));
        CHECKS.due("two are there", 2, x.count(0));
        CHECKS.due("from the last one on", -12, x.hens(0, 1, 11, 1));
        CHECKS.due("from behind the end", -12, x.hens(0, 1, 12, 1));
        CHECKS.due("from -1", -12, x.hens(0, 1, -1, 1));
        for (int far : FAR) {
            CHECKS.due("from " + far, -12, x.hens(0, 1, far, 5));
            CHECKS.due("none, from " + far, 0, x.hens(0, 1, far, 0));
        }
        CHECKS.due("two are there still", 2, x.count(0));
    }

    private static void hensBySheetWhenFull() {
        LaidByArgument x = new LaidByArgument();
        Checks.row(x, 3, 2, 0, 0, 1, 1, 2, 2, 3, 3, 4, 4);
        CHECKS.due("five", 5, x.hens(3, 2, 0, 5));
        for (int i = 0; i < 5; i++) {
            CHECKS.due("kind " + i, i, x.told(i, 4));
            CHECKS.due("number " + i, i, x.told(i, 1));
        }
        CHECKS.due("no room: all are left out", 0, x.hens(3, 2, 0, 5));
        CHECKS.due("outside all the same", -12, x.hens(3, 2, 2, 5));
        LaidByArgument y = new LaidByArgument();
        y.hen(0, 0);
        y.hen(0, 0);
        Checks.row(y, 3, 2, 0, 0, 1, 1, 2, 2, 3, 3, 4, 4);
        CHECKS.due("room for three", 3, y.hens(3, 2, 0, 5));
        CHECKS.due("the last of them", 2, y.told(4, 4));
    }

    private static void hensRefuse() {
        LaidByArgument x = new LaidByArgument();
        x.sheet(0, 1, 10);
        CHECKS.due("no such sheet", -2, x.hens(4, 1, 0, 1));
        CHECKS.due("sheet -1", -2, x.hens(-1, 1, 0, 1));
        CHECKS.due("sort 3", -2, x.hens(0, 3, 0, 1));
        CHECKS.due("sort -1", -2, x.hens(0, -1, 0, 1));
        CHECKS.due("sort -1 of a missing one", -2, x.hens(1, -1, 0, 1));
        CHECKS.due("n 6", -2, x.hens(0, 1, 0, 6));
        CHECKS.due("n -1", -2, x.hens(0, 1, 0, -1));
        CHECKS.due("n 6 of a missing one", -2, x.hens(1, 1, 0, 6));
        CHECKS.due("n 6 of another sort", -2, x.hens(0, 0, 0, 6));
        CHECKS.due("another sort", -13, x.hens(0, 0, 99, 1));
        CHECKS.due("another sort, none", -13, x.hens(0, 2, 0, 0));
        CHECKS.due("a missing one", -11, x.hens(1, 2, 99, 1));
        CHECKS.due("a missing one, none", -11, x.hens(1, 0, 0, 0));
        CHECKS.due("none came", 0, x.count(0));
    }

    private static void takenFor() {
        // By each KIND, those that it is or is under.
        int[] above = {1, 3, 5, 11, 21, 33};
        for (int kind = 0; kind < 6; kind++) {
            LaidByArgument one = new LaidByArgument();
            one.hen(kind, kind + 2);
            for (int k = 0; k < 6; k++) {
                CHECKS.due("kind " + kind + " taken for " + k, (above[kind] >> k & 1) == 1 ? kind + 2 : -13, one.taken(0, k));
            }
        }
        LaidByArgument x = new LaidByArgument();
        x.hen(5, 7);
        CHECKS.due("k 6", -2, x.taken(0, 6));
        CHECKS.due("k -1", -2, x.taken(0, -1));
        CHECKS.due("k 6 ahead of no such hen", -2, x.taken(9, 6));
        CHECKS.due("no such hen", -11, x.taken(1, 0));
        CHECKS.due("hen -1", -11, x.taken(-1, 5));
        for (int far : FAR) {
            CHECKS.due("hen " + far, -11, x.taken(far, 0));
            CHECKS.due("k " + far, -2, x.taken(0, far));
        }
    }
}

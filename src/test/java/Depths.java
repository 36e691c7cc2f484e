/** All that can be got out of an object: what of it can only be seen by calls that change it, too. */
final class Depths {
    private Depths() {
    }

    /** Wants a PULLET as the first HEN; knows whether THE TAPE is a TEXT when ; comes behind it. */
    static String of(LaidByArgument x) {
        StringBuilder state = new StringBuilder(Checks.stateOf(x));
        x.set(2, 0, 0);
        // Sheet 3 is the last of them, for it is used to look at the others.
        sheet(x, 3, state);
        for (int sheet = 0; sheet < 3; sheet++) {
            sheet(x, sheet, state);
            int item = 0;
            for (int i = 0; i <= 40 && item > -11; i++) {
                item = itemOf(x, sheet, i);
                state.append(' ').append(item);
            }
        }
        state.append("\ntape ").append(x.feed(';')).append(' ').append(x.text()).append(' ').append(x.count(3));
        x.force(x.count(3) - 1);
        for (int point = 0; point < 10; point++) {
            state.append(' ').append(x.asks(0, point, 1)).append(x.asks(0, point, 2)).append(x.asks(0, point, 3));
        }
        return state.append("\nimage ").append(x.back()).append(' ').append(Checks.stateOf(x)).toString();
    }

    private static void sheet(LaidByArgument x, int sheet, StringBuilder state) {
        state.append("\nsheet ").append(sheet).append(':');
        for (int sort = 0; sort < 3; sort++) {
            state.append(' ').append(x.hens(sheet, sort, 0, 0));
        }
        state.append(' ').append(x.morning(sheet, 0, 1));
    }

    /** By what a PULLET who holds nothing holds behind a MORNING of it alone. */
    private static int itemOf(LaidByArgument x, int sheet, int i) {
        for (int sort = 0; sort < 3; sort++) {
            if (x.hens(sheet, sort, 0, 0) == 0) {
                x.sheet(3, sort, 1);
                int copied = x.copy(sheet, i, 3, 0, 1);
                return copied == 1 ? x.morning(3, 0, 1) : copied;
            }
        }
        return -11;
    }
}

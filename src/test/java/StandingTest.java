/** Promises 15 to 17: which ARGUMENTS stand, which sets are free of strife. */
public final class StandingTest {
    private static final Checks CHECKS = new Checks("StandingTest");

    public static void main(String[] args) {
        withoutStrife();
        aChain();
        aRingOfThree();
        aRingOfTwo();
        bothOutIsInVainOnce();
        allAgainstAll();
        ofSets();
        refusals();
        theShareInLowestTerms();
        CHECKS.end();
    }

    private static void field(LaidByArgument x, String name, int... due) {
        for (int what = 0; what < 6; what++) {
            CHECKS.due(name + ": field(" + what + ")", due[what], x.field(what));
        }
    }

    private static void share(LaidByArgument x, String name, int above, int below) {
        CHECKS.due(name + ": share(0)", above, x.share(0));
        CHECKS.due(name + ": share(1)", below, x.share(1));
    }

    private static void withoutStrife() {
        LaidByArgument x = new LaidByArgument();
        field(x, "no strife", 1023, 0, 1024, 1, 1023, 0);
        share(x, "no strife", 1, 1);
    }

    private static void aChain() {
        LaidByArgument x = new LaidByArgument();
        for (int point = 0; point < 9; point++) {
            x.against(point, point + 1, 1);
        }
        // Sets of ten in a row without two neighbours: 144. Each is against the next in vain or its mark is out.
        field(x, "a chain", 341, 682, 144, 1, 341, 9);
        share(x, "a chain", 1, 2);
        LaidByArgument y = new LaidByArgument();
        for (int point = 9; point > 0; point--) {
            y.against(point, point - 1, 1);
        }
        field(y, "a chain down", 682, 341, 144, 1, 682, 9);
    }

    private static void aRingOfThree() {
        LaidByArgument x = new LaidByArgument();
        x.against(0, 1, 1);
        x.against(1, 2, 1);
        x.against(2, 0, 1);
        field(x, "a ring of three", 1016, 0, 4 * 128, 0, -1, 0);
        share(x, "a ring of three", 7, 10);
        x.against(9, 0, 1);
        // 9 puts 0 out, so 1 stands, and 2 is out.
        field(x, "a ring of three, broken", 1018, 5, 64 * 4 + 64 * 3, 1, 1018, 4);
    }

    private static void aRingOfTwo() {
        LaidByArgument x = new LaidByArgument();
        x.against(3, 4, 1);
        x.against(4, 3, 1);
        field(x, "a ring of two", 999, 0, 768, 2, 1007, 0);
        share(x, "a ring of two", 4, 5);
        x.against(3, 5, 1);
        x.against(4, 5, 1);
        // 5 neither stands nor is out, though every stable set is against it.
        field(x, "two against a third", 967, 0, 128 * 4, 2, 975, 0);
        share(x, "two against a third", 7, 10);
    }

    private static void bothOutIsInVainOnce() {
        LaidByArgument x = new LaidByArgument();
        x.against(0, 1, 1);
        x.against(0, 2, 1);
        x.against(1, 2, 1);
        x.against(2, 1, 1);
        x.against(1, 3, 1);
        field(x, "two that are out", 1017, 6, 64 * 7, 1, 1017, 5);
    }

    private static void allAgainstAll() {
        LaidByArgument x = new LaidByArgument();
        for (int one = 0; one < 10; one++) {
            for (int other = 0; other < 10; other++) {
                x.against(one, other, 1);
            }
        }
        field(x, "all against all", 0, 0, 11, 10, 1, 0);
        share(x, "all against all", 0, 1);
        CHECKS.due("all against all: twos", 90, x.count(1));
    }

    private static void ofSets() {
        LaidByArgument x = new LaidByArgument();
        x.against(0, 1, 1);
        x.against(1, 2, 1);
        x.against(2, 3, 1);
        CHECKS.due("the empty set is free", 1, x.sets(0, 0));
        CHECKS.due("the empty set is not stable", 0, x.sets(0, 1));
        CHECKS.due("it defends what nothing is against", 1023 - 14, x.sets(0, 2));
        CHECKS.due("0 and 2 are free", 1, x.sets(5, 0));
        CHECKS.due("0 and 2 are not stable", 0, x.sets(5, 1));
        CHECKS.due("0 defends 2, 2 none more", 1023 - 10, x.sets(5, 2));
        CHECKS.due("0 and 1 are not free", 0, x.sets(3, 0));
        CHECKS.due("1 and 0 are not free, though all others are there", 0, x.sets(1023, 0));
        CHECKS.due("nor stable", 0, x.sets(1023, 1));
        CHECKS.due("1 defends 3, not itself", 1023 - 6, x.sets(2, 2));
        CHECKS.due("all but 1 and 3 are stable", 1, x.sets(1023 - 10, 1));
        CHECKS.due("all but 1, 3 and 9 are not", 0, x.sets(1023 - 10 - 512, 1));
        CHECKS.due("all but 1, 3 and 9 are free", 1, x.sets(1023 - 10 - 512, 0));
        x.against(4, 3, 1);
        CHECKS.due("1 alone defends 3 no more", 1023 - 14, x.sets(2, 2));
        x.against(5, 4, 1);
        CHECKS.due("1 and 5 do", 1023 - 4 - 2 - 16, x.sets(34, 2));
    }

    private static void refusals() {
        LaidByArgument x = new LaidByArgument();
        int[] wrong = {Integer.MIN_VALUE, -1, 1024, Integer.MAX_VALUE};
        for (int w : wrong) {
            CHECKS.due("field(" + w + ")", -2, x.field(w));
            CHECKS.due("sets(" + w + ", 0)", -2, x.sets(w, 0));
            CHECKS.due("sets(0, " + w + ")", -2, x.sets(0, w));
            CHECKS.due("share(" + w + ")", -4611686018427387904L, x.share(w));
        }
        CHECKS.due("field(6)", -2, x.field(6));
        CHECKS.due("sets(0, 3)", -2, x.sets(0, 3));
        CHECKS.due("share(2)", LaidByArgument.NO, x.share(2));
    }

    private static void theShareInLowestTerms() {
        int[] above = {1, 9, 4, 7, 3, 1, 2, 3, 1, 1};
        int[] below = {1, 10, 5, 10, 5, 2, 5, 10, 5, 10};
        LaidByArgument x = new LaidByArgument();
        for (int out = 0; out < 10; out++) {
            share(x, out + " out", above[out], below[out]);
            if (out < 9) {
                x.against(9, out, 1);
            }
        }
    }
}

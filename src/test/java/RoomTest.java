import java.lang.management.ManagementFactory;

/** All calls of a run live in one room: the constructor makes the rows, and no call makes any object. */
public final class RoomTest {
    private static final Checks CHECKS = new Checks("RoomTest");
    /** Each object is used for at most 512 calls: some 200 make a farm, and each round is sixteen. */
    private static final int FARMS = 20, ROUNDS = 18;

    public static void main(String[] args) {
        LaidByArgument first = farm();
        long ahead = taken();
        LaidByArgument x = new LaidByArgument();
        long made = taken() - ahead;
        CHECKS.due("a new object takes little: " + made + " bytes", 1, made < 100_000 ? 1 : 0);
        CHECKS.due("it is new", 0, x.count(0));
        dearest(first, 8);
        LaidByArgument[] farms = new LaidByArgument[FARMS];
        for (int i = 0; i < FARMS; i++) {
            farms[i] = farm();
        }
        long before = taken();
        int answers = 0;
        for (int i = 0; i < FARMS; i++) {
            answers += dearest(farms[i], ROUNDS);
        }
        long calls = taken() - before;
        CHECKS.due("the calls answered", 1, answers > 0 ? 1 : 0);
        CHECKS.due("the calls take nothing, or what the machine takes now and then: " + calls + " bytes", 1,
            calls < 20_000 ? 1 : 0);
        CHECKS.end();
    }

    private static long taken() {
        return ((com.sun.management.ThreadMXBean) ManagementFactory.getThreadMXBean())
            .getThreadAllocatedBytes(Thread.currentThread().getId());
    }

    private static LaidByArgument farm() {
        LaidByArgument x = new LaidByArgument();
        Checks.rule(x, "lays against*3+point-(eggs<7)*2; yields not (point=3 or holds<2) or 1; drops point<day;");
        for (int i = 0; i < 5; i++) {
            x.hen(i, i);
            x.set(2, i, 100 * i + 33);
        }
        for (int i = 0; i < 90; i++) {
            x.against(i % 10, i * 7 % 10, 1);
        }
        Checks.row(x, 0, 0, 0, 1, 2, 3, 4, 5, 6, 7, 8, 9);
        return x;
    }

    private static int dearest(LaidByArgument x, int calls) {
        int sum = 0;
        for (int i = 0; i < calls; i++) {
            sum += x.three(i % 5, 3, 0) + x.win(i % 5, i % 10) + x.field(i % 6) + x.tells(0, i % 5, i % 8);
            sum += (int) x.chance(i, 20, i % 5, 20, 0) + x.drawn(i, 1, 60) + x.nights(0, i % 10, 30, 1);
            sum += x.feed("lays 1;#".charAt(i % 8)) + x.text() + x.image() + x.argue(i % 5, i % 10) + x.back();
            sum += x.sheet(1, i % 3, 40) + x.film(2, i % 5) + x.copy(2, 0, 0, 0, 10) + x.hens(0, 0, 0, 5);
        }
        return sum;
    }
}

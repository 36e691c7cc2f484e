/** Each sentence of the document's "Terms" that names a bound: what is due at it, beside it and far behind it. */
public final class BoundsOfTermsTest {
    private static final Checks CHECKS = new Checks("BoundsOfTermsTest");
    /** The most that an int is, and one less than the least. */
    private static final String MOST = "(9999*9999*21+4790*9999+8416)";

    public static void main(String[] args) {
        manyCalls();
        tenArguments();
        thousandDays();
        fiveHens();
        kindsAndNumbers();
        thousandEggs();
        asOneComes();
        objects();
        laysOfAHen();
        laysOfAPullet();
        laysOfABroody();
        laysOfAnOld();
        laysOfACollege();
        laysOfASpeckled();
        yieldsIfNot0();
        yieldsOfABroody();
        yieldsOfAnOld();
        yieldsOfACollege();
        yieldsOfTheOthers();
        drops();
        boundsOfLays();
        theTape();
        tokensAsLongAsCanBe();
        numbers();
        signsAndBlanks();
        anIntWraps();
        truths();
        comparisons();
        theFirstTokenThatCant();
        textsThatEndTooEarly();
        bytesAndWordsOfNone();
        fiveOpen();
        whatIsOpenNoMore();
        sixTexts();
        namesAtTheirBounds();
        putting();
        nights();
        mornings();
        standing();
        freeSets();
        stableSets();
        defended();
        vain();
        best();
        three();
        toWhom();
        win();
        agree();
        nightsInThought();
        toldOf();
        drawn();
        inSeeds();
        share();
        image();
        sheets();
        CHECKS.end();
    }

    /** One HEN; each two is 10 times the one that is AGAINST the other, and the other. */
    private static LaidByArgument farm(int kind, int number, int held, int... twos) {
        LaidByArgument x = new LaidByArgument();
        x.hen(kind, number);
        x.set(2, 0, held);
        against(x, twos);
        return x;
    }

    private static void against(LaidByArgument x, int... twos) {
        for (int two : twos) {
            x.against(two / 10, two % 10, 1);
        }
    }

    private static int read(String text) {
        return Checks.read(new LaidByArgument(), text);
    }

    private static void fault(String text, int place) {
        CHECKS.due("the text " + text, -100 - place, read(text));
    }

    /** An E that can be read in the first part of a TEXT, and one more in the last part. */
    private static void good(String expression) {
        CHECKS.due("the E " + expression, 1, read("lays " + expression + ";yields 0;drops " + expression + ";"));
    }

    /** Whether an E tells yes. */
    private static void yes(LaidByArgument x, String expression, int due) {
        Checks.rule(x, "lays 0;yields " + expression + ";drops 0;");
        CHECKS.due(expression, due, x.asks(0, 9, 2));
    }

    private static void yes(String expression, int due) {
        yes(farm(0, 0, 0), expression, due);
    }

    /** How much one LAYS by 9, which 0 is AGAINST, and HOLDS both. */
    private static int lays(int kind, int number, String v) {
        LaidByArgument x = farm(kind, number, 513, 9);
        x.set(0, 0, 1);
        Checks.rule(x, "lays " + v + ";yields 0;drops 0;");
        return x.asks(0, 9, 1);
    }

    private static void manyCalls() {
        CHECKS.by("An object is used for at most 512 calls after it has been made");
        LaidByArgument x = new LaidByArgument();
        x.hen(0, 0);
        x.against(0, 9, 1);
        x.set(2, 0, 1);
        for (int call = 4; call < 512; call++) {
            CHECKS.due("call " + call, 1, x.argue(0, 9));
        }
        CHECKS.due("call 512", 508, x.told(0, 3));
    }

    private static void tenArguments() {
        CHECKS.by("ARGUMENTS 0 .. 9");
        LaidByArgument x = farm(1, 0, 0);
        CHECKS.due("0 against 9", 0, x.against(0, 9, 1));
        CHECKS.due("9 against 0", 0, x.against(9, 0, 1));
        CHECKS.due("-1 against 0", -2, x.against(-1, 0, 1));
        CHECKS.due("0 against 10", -2, x.against(0, 10, 1));
        CHECKS.due("put 0", 0, x.argue(0, 0));
        CHECKS.due("put 9", 2, x.argue(0, 9));
        CHECKS.due("holds 9, and 0 no more", 512, x.told(0, 2));
        CHECKS.due("put 10", -2, x.argue(0, 10));
        CHECKS.due("put -1", -2, x.argue(0, -1));
        CHECKS.by("one is AGAINST another one, or not (not, at first)");
        for (int point = 0; point < 10; point++) {
            CHECKS.due("against " + point, 0, new LaidByArgument().told(point, 6));
        }
    }

    private static void thousandDays() {
        CHECKS.by("DAY (0 .. 999; 0 at first)");
        LaidByArgument x = new LaidByArgument();
        CHECKS.due("at first", 0, x.told(0, 0));
        CHECKS.due("999", 0, x.set(0, 0, 999));
        CHECKS.due("1000", -2, x.set(0, 0, 1000));
        CHECKS.due("-1", -2, x.set(0, 0, -1));
        CHECKS.due("0", 999, x.set(0, 0, 0));
        CHECKS.due("it is 0", 0, x.told(0, 0));
    }

    private static void fiveHens() {
        CHECKS.by("HENS (5 at most, numbered from 0)");
        LaidByArgument x = new LaidByArgument();
        CHECKS.due("no hen 0", -2, x.told(0, 4));
        for (int i = 0; i < 5; i++) {
            CHECKS.due("the next one", i, x.hen(i, i));
            CHECKS.due("no next one yet", -2, x.told(i + 1, 4));
        }
        CHECKS.due("a sixth", -4, x.hen(0, 0));
        CHECKS.due("five", 5, x.count(0));
    }

    private static void kindsAndNumbers() {
        CHECKS.by("a KIND: 0 HEN, 1 PULLET .. 5 SPECKLED under HEN");
        LaidByArgument x = new LaidByArgument();
        CHECKS.due("kind -1", -2, x.hen(-1, 0));
        CHECKS.due("kind 6", -2, x.hen(6, 0));
        CHECKS.due("kind 0", 0, x.hen(0, 0));
        CHECKS.due("kind 5", 1, x.hen(5, 0));
        CHECKS.due("it is 0", 0, x.told(0, 4));
        CHECKS.due("it is 5", 5, x.told(1, 4));
        CHECKS.by("a NUMBER (0 .. 9)");
        CHECKS.due("number -1", -2, x.hen(0, -1));
        CHECKS.due("number 10", -2, x.hen(0, 10));
        CHECKS.due("number 9", 2, x.hen(0, 9));
        CHECKS.due("it is 9", 9, x.told(2, 1));
        CHECKS.due("10 no more", -2, x.set(1, 2, 10));
        CHECKS.due("0 again", 9, x.set(1, 2, 0));
    }

    private static void thousandEggs() {
        CHECKS.by("EGGS (0 .. 999");
        LaidByArgument x = farm(0, 0, 513, 9);
        CHECKS.due("999", 0, x.set(3, 0, 999));
        CHECKS.due("1000", -2, x.set(3, 0, 1000));
        CHECKS.due("she lays one more", 1, x.argue(0, 9));
        CHECKS.due("999 all the same", 999, x.told(0, 3));
        CHECKS.due("-1", -2, x.set(3, 0, -1));
        CHECKS.due("0", 999, x.set(3, 0, 0));
    }

    private static void asOneComes() {
        LaidByArgument x = new LaidByArgument();
        x.image();
        x.hen(0, 9);
        x.set(2, 0, 1023);
        x.set(3, 0, 999);
        x.back();
        x.hen(0, 1);
        CHECKS.by("HOLD some ARGUMENTS (bits; none as one comes)");
        CHECKS.due("where another one was", 0, x.told(0, 2));
        CHECKS.by("EGGS (0 .. 999; 0 as one comes)");
        CHECKS.due("where another one was", 0, x.told(0, 3));
    }

    private static void objects() {
        CHECKS.by("OBJECTS (how many of those she HOLDS are AGAINST the one that is put)");
        LaidByArgument x = farm(0, 0, 1022, 10, 20, 30, 40, 50, 60, 70, 80, 90);
        CHECKS.due("nine of nine", 9, x.asks(0, 0, 0));
        x.set(2, 0, 1);
        CHECKS.due("none, though she holds it", 0, x.asks(0, 0, 0));
        x.set(2, 0, 0);
        CHECKS.due("none of none", 0, x.asks(0, 0, 0));
        x.set(2, 0, 1023);
        CHECKS.due("by 9, which is against 0: none", 0, x.asks(0, 9, 0));
        x.against(9, 0, 0);
        CHECKS.due("eight of ten", 8, x.asks(0, 0, 0));
    }

    private static void laysOfAHen() {
        CHECKS.by("HEN: v, if any OBJECTS, else 0");
        LaidByArgument x = farm(0, 0, 6, 10, 20);
        Checks.rule(x, "lays 7;yields 1;drops 0;");
        CHECKS.due("two object", 7, x.asks(0, 0, 1));
        x.set(2, 0, 2);
        CHECKS.due("one objects", 7, x.asks(0, 0, 1));
        x.set(2, 0, 1021 - 4);
        CHECKS.due("none objects", 0, x.asks(0, 0, 1));
    }

    private static void laysOfAPullet() {
        CHECKS.by("PULLET: twice a HEN's");
        LaidByArgument x = farm(1, 9, 2, 10);
        Checks.rule(x, "lays 7;yields 1;drops 0;");
        CHECKS.due("one objects", 14, x.asks(0, 0, 1));
        x.set(2, 0, 1);
        CHECKS.due("none objects", 0, x.asks(0, 0, 1));
    }

    private static void laysOfABroody() {
        CHECKS.by("BROODY: as a HEN, but 0, if DAY modulo 3 is 0");
        LaidByArgument x = farm(2, 9, 2, 10);
        Checks.rule(x, "lays 7;yields 1;drops 0;");
        int[] days = {0, 1, 2, 3, 4, 5, 996, 997, 998, 999};
        for (int day : days) {
            x.set(0, 0, day);
            CHECKS.due("day " + day, day % 3 == 0 ? 0 : 7, x.asks(0, 0, 1));
        }
        x.set(2, 0, 0);
        x.set(0, 0, 1);
        CHECKS.due("none objects", 0, x.asks(0, 0, 1));
    }

    private static void laysOfAnOld() {
        CHECKS.by("OLD: NUMBER more than a PULLET, if she HOLDS it, else as a PULLET");
        LaidByArgument x = farm(3, 9, 3, 10);
        Checks.rule(x, "lays 7;yields 1;drops 0;");
        CHECKS.due("held, one objects", 23, x.asks(0, 0, 1));
        x.set(2, 0, 2);
        CHECKS.due("not held, one objects", 14, x.asks(0, 0, 1));
        x.set(2, 0, 1);
        CHECKS.due("held, none objects", 9, x.asks(0, 0, 1));
        x.set(2, 0, 1020);
        CHECKS.due("not held, none objects", 0, x.asks(0, 0, 1));
        x.set(2, 0, 3);
        x.set(1, 0, 0);
        CHECKS.due("held, number 0", 14, x.asks(0, 0, 1));
    }

    private static void laysOfACollege() {
        CHECKS.by("COLLEGE: as a BROODY, 4 at most");
        CHECKS.due("3", 3, lays(4, 0, "3"));
        CHECKS.due("4", 4, lays(4, 0, "4"));
        CHECKS.due("5", 4, lays(4, 0, "5"));
        CHECKS.due("100", 4, lays(4, 0, "100"));
        CHECKS.due("below 0", 0, lays(4, 0, "-1"));
        LaidByArgument x = farm(4, 0, 513, 9);
        CHECKS.due("day 0", 0, x.asks(0, 9, 1));
        x.set(0, 0, 3);
        CHECKS.due("day 3", 0, x.asks(0, 9, 1));
        x.set(0, 0, 2);
        CHECKS.due("day 2", 1, x.asks(0, 9, 1));
    }

    private static void laysOfASpeckled() {
        CHECKS.by("SPECKLED: 1, if none OBJECTS, else 0");
        CHECKS.due("one objects", 0, lays(5, 9, "50"));
        LaidByArgument x = farm(5, 9, 0, 9, 19);
        CHECKS.due("holds nothing", 1, x.asks(0, 9, 1));
        x.set(2, 0, 1020);
        CHECKS.due("holds what objects not", 1, x.asks(0, 9, 1));
        x.set(2, 0, 3);
        CHECKS.due("two object", 0, x.asks(0, 9, 1));
    }

    private static void yieldsIfNot0() {
        CHECKS.by("yields telling yes, if it isn't 0");
        yes("0", 0);
        yes("1", 1);
        yes("-1", 1);
        yes("9999", 1);
        yes("256", 1);
        yes(MOST + "+1", 1);
        yes("1-1", 0);
    }

    private static LaidByArgument objected(int kind, int number, int objecting, int yields) {
        LaidByArgument x = farm(kind, number, (1 << objecting) - 1, 9, 19, 29, 39);
        Checks.rule(x, "lays 1;yields " + yields + ";drops 0;");
        return x;
    }

    private static void yieldsOfABroody() {
        CHECKS.by("BROODY: if yes, and fewer than 2 OBJECT");
        CHECKS.due("yes, none", 1, objected(2, 0, 0, 1).asks(0, 9, 2));
        CHECKS.due("yes, one", 1, objected(2, 0, 1, 1).asks(0, 9, 2));
        CHECKS.due("yes, two", 0, objected(2, 0, 2, 1).asks(0, 9, 2));
        CHECKS.due("yes, three", 0, objected(2, 0, 3, 1).asks(0, 9, 2));
        CHECKS.due("no, none", 0, objected(2, 0, 0, 0).asks(0, 9, 2));
        CHECKS.due("no, one", 0, objected(2, 0, 1, 0).asks(0, 9, 2));
    }

    private static void yieldsOfAnOld() {
        CHECKS.by("OLD: as a PULLET, if NUMBER is odd, else never");
        for (int number = 0; number < 10; number++) {
            CHECKS.due("number " + number + ", yes", number % 2, objected(3, number, 1, 1).asks(0, 9, 2));
            CHECKS.due("number " + number + ", no", number % 2, objected(3, number, 1, 0).asks(0, 9, 2));
        }
    }

    private static void yieldsOfACollege() {
        CHECKS.by("COLLEGE: as a BROODY, or if she HOLDS nothing");
        CHECKS.due("no, holds nothing", 1, objected(4, 0, 0, 0).asks(0, 9, 2));
        CHECKS.due("no, holds one that objects", 0, objected(4, 0, 1, 0).asks(0, 9, 2));
        CHECKS.due("no, holds the one that is put", 0, farmOfNo(4, 512).asks(0, 9, 2));
        CHECKS.due("yes, holds one that objects", 1, objected(4, 0, 1, 1).asks(0, 9, 2));
        CHECKS.due("yes, holds two that object", 0, objected(4, 0, 2, 1).asks(0, 9, 2));
    }

    private static LaidByArgument farmOfNo(int kind, int held) {
        LaidByArgument x = farm(kind, 0, held);
        Checks.rule(x, "lays 1;yields 0;drops 0;");
        return x;
    }

    private static void yieldsOfTheOthers() {
        CHECKS.by("YIELDS .. HEN: if yes; PULLET: always; .. SPECKLED: never");
        CHECKS.due("a hen, yes", 1, objected(0, 0, 4, 1).asks(0, 9, 2));
        CHECKS.due("a hen, no", 0, objected(0, 0, 0, 0).asks(0, 9, 2));
        CHECKS.due("a pullet, yes", 1, objected(1, 0, 4, 1).asks(0, 9, 2));
        CHECKS.due("a pullet, no", 1, objected(1, 0, 4, 0).asks(0, 9, 2));
        CHECKS.due("a speckled one, yes", 0, objected(5, 0, 0, 1).asks(0, 9, 2));
        CHECKS.due("a speckled one, no", 0, objected(5, 0, 0, 0).asks(0, 9, 2));
    }

    private static int dropped(int kind, int number, int held, String drops) {
        LaidByArgument x = farm(kind, number, held);
        Checks.rule(x, "lays 1;yields 0;drops " + drops + ";");
        return x.told(0, 5);
    }

    private static void drops() {
        CHECKS.by("DROPS (by night an ARGUMENT she HOLDS, drops telling yes, if it isn't 0)");
        CHECKS.due("holds all, drops all", 1023, dropped(0, 0, 1023, "-1"));
        CHECKS.due("holds all, drops none", 0, dropped(0, 0, 1023, "0"));
        CHECKS.due("holds nothing", 0, dropped(0, 0, 0, "1"));
        CHECKS.due("holds 0 and 9", 513, dropped(0, 0, 513, "256"));
        CHECKS.due("drops 9", 512, dropped(0, 0, 1023, "point=9"));
        CHECKS.due("drops 0", 1, dropped(0, 0, 1023, "point=0"));
        CHECKS.by("PULLET: as a HEN; .. OLD: as a PULLET");
        for (int kind = 1; kind < 4; kind += 2) {
            CHECKS.due("kind " + kind + ", yes", 513, dropped(kind, 5, 513, "1"));
            CHECKS.due("kind " + kind + ", no", 0, dropped(kind, 5, 513, "0"));
        }
        CHECKS.by("BROODY: never");
        CHECKS.due("yes", 0, dropped(2, 0, 1023, "1"));
        CHECKS.due("no", 0, dropped(2, 0, 1023, "0"));
        CHECKS.by("COLLEGE: the one of NUMBER alone");
        CHECKS.due("number 0", 1, dropped(4, 0, 1023, "0"));
        CHECKS.due("number 9", 512, dropped(4, 9, 1023, "1"));
        CHECKS.due("number 9, which she does not hold", 0, dropped(4, 9, 511, "1"));
        CHECKS.by("SPECKLED: if not yes");
        CHECKS.due("yes", 0, dropped(5, 0, 1023, "-1"));
        CHECKS.due("no", 1023, dropped(5, 0, 1023, "0"));
    }

    private static void boundsOfLays() {
        CHECKS.by("LAYS 0 .. 99, else the bound: laid on what the text tells, and on what comes out");
        CHECKS.due("98", 98, lays(0, 0, "98"));
        CHECKS.due("99", 99, lays(0, 0, "99"));
        CHECKS.due("100", 99, lays(0, 0, "100"));
        CHECKS.due("the most", 99, lays(0, 0, MOST));
        CHECKS.due("one more wraps", 0, lays(0, 0, MOST + "+1"));
        CHECKS.due("0", 0, lays(0, 0, "0"));
        CHECKS.due("-1", 0, lays(0, 0, "-1"));
        CHECKS.due("twice 49", 98, lays(1, 0, "49"));
        CHECKS.due("twice 50", 99, lays(1, 0, "50"));
        CHECKS.due("twice the most", 99, lays(1, 0, MOST));
        CHECKS.due("twice the least", 0, lays(1, 0, MOST + "+1"));
        CHECKS.due("twice 45 and 9", 99, lays(3, 9, "45"));
        CHECKS.due("twice 45 and 8", 98, lays(3, 8, "45"));
        CHECKS.due("twice 46 and 9", 99, lays(3, 9, "46"));
        CHECKS.due("twice the most and 9", 99, lays(3, 9, MOST));
        CHECKS.due("twice what is below 0, and 9", 9, lays(3, 9, "-5"));
        CHECKS.due("a broody one, 100", 99, lays(2, 0, "100"));
        CHECKS.due("a broody one, -1", 0, lays(2, 0, "-1"));
    }

    private static String padded(String text, int size) {
        StringBuilder padded = new StringBuilder(text);
        while (padded.length() < size) {
            padded.append(padded.length() % 3 == 0 ? '\n' : ' ');
        }
        return padded.toString();
    }

    private static void theTape() {
        CHECKS.by("THE TAPE (160 bytes at most)");
        LaidByArgument x = new LaidByArgument();
        CHECKS.due("160 bytes", 160, Checks.feedAll(x, padded("lays 1;yields 1;drops 0;", 160)));
        CHECKS.due("a byte more", -4, x.feed(32));
        CHECKS.due("160 still", 160, x.count(4));
        CHECKS.due("they are a text", 1, x.text());
        CHECKS.due("none then", 0, x.count(4));
        fault(padded("lays 1;yields 1;drops 0", 160), 160);
        fault(padded("lays 1;yields 1;drops 0", 159) + "(", 159);
        CHECKS.due("the last byte is the last ;", 1, read(padded("lays 1;yields 1;drops 0", 159) + ";"));
        fullTapes();
    }

    /** Five TEXTS, each of as many parts as THE TAPE has room for, and each with the whole tape for itself. */
    private static void fullTapes() {
        StringBuilder sum = new StringBuilder("lays 0");
        while (sum.length() < 140) {
            sum.append("+1");
        }
        LaidByArgument x = farm(0, 0, 1, 9);
        for (int number = 1; number < 3; number++) {
            CHECKS.due("160 bytes", 160, Checks.feedAll(x, sum + ";yields 1+0;drops 0;"));
            CHECKS.due("the text of them", number, x.text());
            x.force(number);
            CHECKS.due("the sum of all its ones", 67, x.asks(0, 9, 1));
            CHECKS.due("its yes", 1, x.asks(0, 9, 2));
            CHECKS.due("its no", 0, x.asks(0, 9, 3));
        }
    }

    private static void tokensAsLongAsCanBe() {
        CHECKS.by("TOKENS, each as long as can be");
        fault("lays pointday;yields 1;drops 0;", 5);
        fault("lays holdsnumber;", 5);
        fault("lays notpoint;", 5);
        fault("laysyields 1;", 0);
        good("point");
        good("1or 2and 3");
        good("(1)or(2)and(3)");
        good("1<2and not-3=4");
        good("day-day");
    }

    private static void numbers() {
        CHECKS.by("NUMBERS (as many digits as stand there, 4 at most)");
        good("0");
        good("9999");
        good("0000");
        yes("0012=12", 1);
        yes("9999=9998+1", 1);
        yes("1000=999+1", 1);
        fault("lays 12345;", 5);
        fault("lays 00000;", 5);
        fault("lays 1+10000;", 7);
        fault("lays 1234 5;", 10);
        fault("lays " + "9".repeat(155), 5);
    }

    private static void signsAndBlanks() {
        CHECKS.by("SIGNS ( ) ; + - * < = ; blanks (32, 10) may stand between");
        CHECKS.due("none between", 1, read("lays(1+1-1*1<1);yields 1=1;drops 0;"));
        CHECKS.due("both between", 1, read("\n\n lays\n(\n1 +\n 1 )\n;\nyields\n1\n;\ndrops\n0\n;\n\n"));
        for (int letter = 0; letter < 256; letter++) {
            boolean blank = letter == 32 || letter == 10;
            boolean digit = letter >= '0' && letter <= '9';
            boolean sum = letter == '+' || letter == '-' || letter == '*' || letter == '<' || letter == '=';
            // Behind a sign of a SUM another ONE must stand, behind a ; yields: there stands another ; .
            int due = blank || digit ? 1 : sum || letter == ';' ? -107 : -106;
            CHECKS.due("behind a 1 the byte " + letter, due, read("lays 1" + (char) letter + ";yields 1;drops 0;"));
        }
    }

    private static void anIntWraps() {
        CHECKS.by("An E is an int (32 bits, wrapping)");
        yes(MOST + "<0", 0);
        yes(MOST + "+1<0", 1);
        yes("0-" + MOST + "-2=" + MOST, 1);
        yes("256*256*256*256", 0);
        yes("256*256*256*128<0", 1);
        yes("-(256*256*256*128)<0", 1);
        yes("-(256*256*256*128)=256*256*256*128", 1);
        yes("9999*9999*9999=9999*9999*9999", 1);
        // The least is less than the most, though their difference wraps.
        yes("256*256*256*128<" + MOST, 1);
        yes(MOST + "<256*256*256*128", 0);
    }

    private static void truths() {
        CHECKS.by("of or, and, not, <, = 1 or 0 (what is not 0 is true)");
        yes("(5 or 7)=1", 1);
        yes("(0 or 7)=1", 1);
        yes("(5 or 0)=1", 1);
        yes("(0 or 0)=0", 1);
        yes("(-1 or 0)=1", 1);
        yes("(5 and 2)=1", 1);
        yes("(-1 and -2)=1", 1);
        yes("(5 and 0)=0", 1);
        yes("(0 and 5)=0", 1);
        yes("(not 5)=0", 1);
        yes("(not -1)=0", 1);
        yes("(not 0)=1", 1);
        yes("(not not 7)=1", 1);
        yes("(1<2)=1", 1);
        yes("(2=2)=1", 1);
        yes("(2=3)=0", 1);
        yes("(1<2)+(1<2)=2", 1);
    }

    private static void comparisons() {
        CHECKS.by("SUM, perhaps < or = and a SUM");
        yes("2<3", 1);
        yes("3<3", 0);
        yes("4<3", 0);
        yes("-1<0", 1);
        yes("0<-1", 0);
        yes("3=3", 1);
        yes("-3=3", 0);
        fault("lays 1<2<3;", 8);
        fault("lays 1=2<3;", 8);
        good("(1<2)<3");
    }

    private static void theFirstTokenThatCant() {
        CHECKS.by("FAULT: the place of the first byte of the first TOKEN that can't stand there");
        fault("yields 1;", 0);
        fault("  point", 2);
        fault("lays drops", 5);
        fault("lays 1 point ;", 7);
        fault("lays 1;;", 7);
        fault("lays 1;yields 1;drops 0; lays 1;", 25);
        String[] tokens = {"1", "point", "lays", "or", "not", "(", ")", ";", "+", "-", "*", "<", "=", "12345", "foo", "#"};
        for (String token : tokens) {
            fault("lays 1;yields 1;drops 0;" + token, 24);
            fault("lays 1;yields 1;drops 0; " + token + " ", 25);
        }
        fault("lays ) ( foo 12345 #", 5);
    }

    private static void textsThatEndTooEarly() {
        CHECKS.by("(the text's size, if it ends too early)");
        fault("", 0);
        fault("\n  ", 3);
        String text = "lays point ;yields 1+2 ;drops not 0;";
        // Cut behind each TOKEN: what is there can be gone on with.
        int[] ends = {4, 10, 12, 18, 20, 21, 22, 24, 29, 33, 35};
        for (int end : ends) {
            fault(text.substring(0, end), end);
            fault(text.substring(0, end) + "  ", end + 2);
        }
        CHECKS.due("not too early", 1, read(text));
        fault("lays (((((1", 11);
        fault("lays not not not not not", 24);
    }

    private static void bytesAndWordsOfNone() {
        CHECKS.by("also of a byte that begins none");
        int[] none = {0, 9, 11, 13, 31, 33, 34, 39, 44, 46, 47, 58, 62, 63, 64, 'A', 'Z', 91, 95, 96, 123, 127, 128, 255};
        for (int letter : none) {
            fault("lays 1+" + (char) letter + ";", 7);
            fault((char) letter + "lays 1;", 0);
        }
        CHECKS.by("a WORD that is neither KEY nor NAME");
        String[] known = {
            "point", "against", "holds", "number", "day", "eggs", "lays", "yields", "drops", "or", "and", "not",
        };
        for (String word : known) {
            fault(word + ";", word.equals("lays") ? 4 : 0);
            noWord("q" + word);
            noWord("a" + word);
            noWord(word + "a");
            noWord(word + "z");
            noWord("z" + word.substring(1));
            noWord(word.substring(1));
            noWord(word.substring(0, word.length() - 1) + "z");
            noWord(word.substring(0, word.length() - 1));
            noWord(word + word);
        }
        CHECKS.by("a NUMBER that is too long");
        fault("lays 1+ 10000;", 8);
        fault("lays 1;yields 1;drops 0;00001", 24);
    }

    private static void noWord(String word) {
        fault("lays 1+ " + word + ";", 8);
        fault(word + ";", 0);
        fault("lays 1 " + word, 7);
    }

    private static void fiveOpen() {
        CHECKS.by("a ( .. while 5 of these are open");
        good("(((((1)))))");
        fault("lays ((((((1))))));", 10);
        good("-(-(-1))+(((((1)))))");
        fault("lays -----(1);", 10);
        fault("lays not not not not not(1);", 24);
        fault("lays not(-(-(1)));", 12);
        CHECKS.by("a not .. while 5 of these are open");
        good("not not not not not 1");
        fault("lays not not not not not not 1;", 25);
        good("((((not 1))))");
        good("(((not not 1)))");
        good("((not not not 1))");
        fault("lays (((not not not 1)));", 16);
        fault("lays ((not not not not 1));", 19);
        fault("lays (((((not 1)))));", 10);
        fault("lays -(-((not 1)));", 10);
        fault("lays -(-(not not 1));", 13);
        CHECKS.by("a - ahead of a ONE while 5 of these are open");
        good("-----1");
        fault("lays ------1;", 10);
        good("((((-1))))");
        good("(((--1)))");
        good("((---1))");
        fault("lays (((---1)));", 10);
        fault("lays ((----1));", 10);
        fault("lays (((((-1)))));", 10);
        good("not not not not -1");
        fault("lays not not not not not -1;", 25);
        good("(((((1-1)))))");
        good("not not not not not 1-1");
        fault("lays not not not not not 1--1;", 27);
    }

    private static void whatIsOpenNoMore() {
        CHECKS.by("a ( till its )");
        good("(1)+(1)+(1)+(1)+(1)+(1)");
        good("((((1)+(1))+(1))+(1))");
        good("(((((1))))+((((1)))))");
        CHECKS.by("not and - till what they belong to ends");
        good("-1+-1+-1+-1+-1+-1");
        good("-----1*-----1<-----1");
        good("not 1 and not 1 and not 1 and not 1 and not 1 and not 1");
        good("not not not not not 1 or(((((1)))))");
        good("not not not not -1=-1");
        fault("lays not not not not not 1=-1;", 27);
        fault("lays not not not not not 1*(1);", 27);
        good("----(1)*-----1");
        fault("lays ----(-1);", 10);
    }

    private static void sixTexts() {
        CHECKS.by("There are 6 TEXTS at most, TEXT 0 with them");
        LaidByArgument x = new LaidByArgument();
        CHECKS.due("one at first", 1, x.count(3));
        for (int number = 1; number < 6; number++) {
            CHECKS.due("the next one", number, Checks.read(x, "lays 1;yields 1;drops 0;"));
        }
        CHECKS.due("a seventh", -4, Checks.read(x, "lays 1;yields 1;drops 0;"));
        CHECKS.due("six", 6, x.count(3));
        CHECKS.by("TEXT 0, at first THE RULE, is: lays against ; yields 1 ; drops 0 ;");
        LaidByArgument y = farm(0, 0, 7, 9, 19, 29);
        CHECKS.due("the rule", 0, y.count(5));
        CHECKS.due("three are against it", 3, y.asks(0, 9, 1));
        CHECKS.due("she yields", 1, y.asks(0, 9, 2));
        CHECKS.due("she drops none", 0, y.told(0, 5));
    }

    private static void namesAtTheirBounds() {
        CHECKS.by("point: its number; against: how many she HOLDS OBJECT; holds: how many ARGUMENTS she HOLDS");
        yes(farm(0, 0, 0), "point=9 and against=0 and holds=0", 1);
        yes(farm(0, 0, 1023, 9, 19, 29, 39, 49, 59, 69, 79, 89), "point=9 and against=9 and holds=10", 1);
        LaidByArgument x = farm(0, 0, 0);
        Checks.rule(x, "lays 0;yields point=0;drops 0;");
        CHECKS.due("point 0", 1, x.asks(0, 0, 2));
        CHECKS.by("number: NUMBER; day: DAY; eggs: EGGS");
        yes(farm(0, 0, 0), "number=0 and day=0 and eggs=0", 1);
        LaidByArgument most = farm(0, 9, 0);
        most.set(0, 0, 999);
        most.set(3, 0, 999);
        yes(most, "number=9 and day=999 and eggs=999", 1);
    }

    private static void putting() {
        CHECKS.by("EGGS are as many more as she LAYS (999 at most)");
        LaidByArgument x = farm(0, 0, 513, 9);
        x.set(3, 0, 997);
        CHECKS.due("lays", 1, x.argue(0, 9));
        CHECKS.due("998", 998, x.told(0, 3));
        x.argue(0, 9);
        CHECKS.due("999", 999, x.told(0, 3));
        x.argue(0, 9);
        CHECKS.due("999 at most", 999, x.told(0, 3));
        cappedInThought();
        CHECKS.by("if she YIELDS, she HOLDS it, and no more those it is AGAINST");
        LaidByArgument y = farm(0, 0, 511, 90, 91, 92, 93, 94, 95, 96, 97, 98);
        y.argue(0, 9);
        CHECKS.due("nine go", 512, y.told(0, 2));
        y.argue(0, 9);
        CHECKS.due("it stays, put again", 512, y.told(0, 2));
        y.argue(0, 0);
        CHECKS.due("what is against it stays", 513, y.told(0, 2));
        LaidByArgument z = farmOfNo(0, 511);
        against(z, 90);
        z.argue(0, 9);
        CHECKS.due("she does not yield", 511, z.told(0, 2));
        CHECKS.by("all told ahead");
        LaidByArgument w = farm(0, 0, 1, 9);
        Checks.rule(w, "lays 5;yields eggs=0 and holds=1 and against=1;drops 0;");
        CHECKS.due("lays", 5, w.argue(0, 9));
        CHECKS.due("yields by what was", 513, w.told(0, 2));
    }

    /** By eggs she lays 9, then as many as the bound leaves: 999 less 995 is 4, then none less. */
    private static void cappedInThought() {
        LaidByArgument x = farm(0, 0, 1, 9);
        Checks.rule(x, "lays 9-(eggs=999)*5-(999<eggs)*7;yields 0;drops 0;");
        x.set(3, 0, 995);
        Checks.row(x, 0, 0, 9, 9, 9);
        CHECKS.due("a morning of three", 9 + 4 + 4, x.morning(0, 0, 0));
        CHECKS.due("three", 9 + 4 + 4, x.three(0, 3, 1));
        CHECKS.due("two", 9 + 4, x.three(0, 2, 1));
        CHECKS.due("three nights", 9 + 4 + 4, x.nights(0, 9, 3, 1));
        LaidByArgument y = ofAll();
        CHECKS.due("sixty that are drawn", 9 + 59 * 4, y.drawn(0, 0, 60));
        CHECKS.due("eight that are drawn: so many", 1, y.chance(0, 1, 0, 9 + 7 * 4, 0));
        CHECKS.due("eight that are drawn: no more", 0, y.chance(0, 1, 0, 9 + 7 * 4 + 1, 0));
        CHECKS.due("in thought", 995, x.told(0, 3) == y.told(0, 3) ? 995 : 0);
        CHECKS.due("truly", 9 + 4 + 4, x.teach(0, 0));
        CHECKS.due("truly, eggs", 999, x.told(0, 3));
    }

    private static LaidByArgument ofAll() {
        LaidByArgument y = farm(0, 0, 1023, 1, 12, 23, 34, 45, 56, 67, 78, 89, 90);
        Checks.rule(y, "lays 9-(eggs=999)*5-(999<eggs)*7;yields 0;drops 0;");
        y.set(3, 0, 995);
        return y;
    }

    private static void nights() {
        CHECKS.by("of all HENS, told ahead, what each DROPS she HOLDS no more; DAY is 1 more");
        LaidByArgument x = new LaidByArgument();
        Checks.rule(x, "lays 0;yields 0;drops day=0 and holds=10;");
        for (int i = 0; i < 5; i++) {
            x.hen(i == 4 ? 5 : 0, 0);
            x.set(2, i, 1023);
        }
        CHECKS.due("four drop all by the ten they held on day 0, the speckled one none", 10, x.night());
        CHECKS.due("the first", 0, x.told(0, 2));
        CHECKS.due("the fourth", 0, x.told(3, 2));
        CHECKS.due("the fifth", 1023, x.told(4, 2));
        CHECKS.due("day", 1, x.told(0, 0));
        CHECKS.due("the speckled one drops all on day 1", 0, x.night());
        CHECKS.due("day", 2, x.told(0, 0));
    }

    private static void mornings() {
        CHECKS.by("ARGUMENTS that a SHEET tells, PUT to one, one behind the other");
        LaidByArgument x = farm(0, 0, 0, 9);
        Checks.row(x, 0, 0, 9, 0, 9, 9);
        CHECKS.due("0, 0, 1, 1", 2, x.morning(0, 0, 0));
        x.sheet(0, 0, 0);
        CHECKS.due("of none", 0, x.teach(0, 0));
        CHECKS.due("holds", 0, x.told(0, 2));
        x.sheet(0, 1, 40);
        x.cell(0, 38, 9);
        CHECKS.due("the last but one of forty", 1, x.morning(0, 0, 0));
        x.cell(0, 39, 9);
        CHECKS.due("the last of forty", 2, x.morning(0, 0, 0));
    }

    private static void standing() {
        CHECKS.by("(none of either at first), till nothing more comes");
        LaidByArgument x = new LaidByArgument();
        // 0 stands, so 1 is out, so 2 stands .. : ten of these, the last as the first.
        int[] order = {9, 1, 7, 3, 5, 0, 8, 2, 6, 4};
        for (int i = 0; i < 9; i++) {
            x.against(order[i], order[i + 1], 1);
        }
        CHECKS.due("every second one stands", 512 + 128 + 32 + 256 + 64, x.field(0));
        CHECKS.due("the others are out", 2 + 8 + 1 + 4 + 16, x.field(1));
        x.against(4, 9, 1);
        CHECKS.due("a ring of ten: none stands", 0, x.field(0));
        CHECKS.due("a ring of ten: none is out", 0, x.field(1));
        CHECKS.due("new: all stand", 1023, new LaidByArgument().field(0));
        CHECKS.due("new: none is out", 0, new LaidByArgument().field(1));
    }

    private static LaidByArgument allAgainstAll() {
        LaidByArgument x = new LaidByArgument();
        for (int one = 0; one < 10; one++) {
            for (int other = 0; other < 10; other++) {
                x.against(one, other, 1);
            }
        }
        return x;
    }

    private static void freeSets() {
        CHECKS.by("How many FREE sets there are (that of none, too)");
        CHECKS.due("all sets", 1024, new LaidByArgument().field(2));
        CHECKS.due("all against all: ten of one, that of none", 11, allAgainstAll().field(2));
        CHECKS.by("FREE: a set none of which is AGAINST one of it");
        LaidByArgument x = farm(0, 0, 0, 90);
        CHECKS.due("of none", 1, x.sets(0, 0));
        CHECKS.due("of one", 1, x.sets(512, 0));
        CHECKS.due("of both", 0, x.sets(513, 0));
        CHECKS.due("of all", 0, x.sets(1023, 0));
        CHECKS.due("of all but one", 1, x.sets(1022, 0));
        CHECKS.due("without the first", 768, x.field(2));
    }

    private static void stableSets() {
        CHECKS.by("STABLE: a FREE set such that one of it is AGAINST each that isn't of it");
        CHECKS.due("new: that of all", 1, new LaidByArgument().sets(1023, 1));
        CHECKS.due("new: not that of none", 0, new LaidByArgument().sets(0, 1));
        CHECKS.due("new: not one less", 0, new LaidByArgument().sets(1022, 1));
        LaidByArgument x = farm(0, 0, 0, 90);
        CHECKS.due("all but 0", 1, x.sets(1022, 1));
        CHECKS.due("all but 9", 0, x.sets(511, 1));
        CHECKS.due("all: not free", 0, x.sets(1023, 1));
        CHECKS.by("STABLE ones; the least STABLE one as bits; NONE");
        CHECKS.due("all against all: how many", 10, allAgainstAll().field(3));
        CHECKS.due("all against all: the least", 1, allAgainstAll().field(4));
        LaidByArgument ring = farm(0, 0, 0, 12, 23, 31);
        CHECKS.due("a ring of three: how many", 0, ring.field(3));
        CHECKS.due("a ring of three: the least", -1, ring.field(4));
    }

    private static void defended() {
        CHECKS.by("for each that is AGAINST it one of the set is AGAINST that one");
        LaidByArgument x = farm(0, 0, 0, 10, 20, 31, 42, 12);
        CHECKS.due("by none: what nothing is against", 1023 - 7, x.sets(0, 2));
        CHECKS.due("by 3: of 0 one striker alone", 1023 - 7, x.sets(8, 2));
        CHECKS.due("by 3 and 4: 0 too", 1023 - 6, x.sets(24, 2));
        CHECKS.due("by all: not 1, 2: none is against 3, 4", 1023 - 6, x.sets(1023, 2));
        CHECKS.due("all against all: by none", 0, allAgainstAll().sets(0, 2));
        CHECKS.due("all against all: by one", 1, allAgainstAll().sets(1, 2));
    }

    private static void vain() {
        CHECKS.by("the first is AGAINST the second, and either of them is out of it");
        CHECKS.due("new", 0, new LaidByArgument().field(5));
        CHECKS.due("none is out", 0, allAgainstAll().field(5));
        CHECKS.due("the second is out", 1, farm(0, 0, 0, 9).field(5));
        CHECKS.due("the first is out, and the second of the other", 2, farm(0, 0, 0, 9, 98).field(5));
        LaidByArgument x = allAgainstAll();
        for (int other = 0; other < 9; other++) {
            x.against(other, 9, 0);
        }
        CHECKS.due("nine are out: all are vain", 81, x.field(5));
    }

    private static void best() {
        CHECKS.by("the ARGUMENT by which, PUT now, she LAYS most; of like ones the first");
        CHECKS.due("all like", 0, farm(0, 0, 0).best(0, 0));
        CHECKS.due("two like", 4, farm(0, 0, 1, 9, 4).best(0, 0));
        CHECKS.due("the last", 9, farm(0, 0, 3, 9, 19, 4).best(0, 0));
        CHECKS.by("NEAREST (one): with whom she AGREES most; of like ones the first; NONE");
        LaidByArgument x = farm(0, 0, 1023);
        CHECKS.due("nobody", -1, x.best(0, 2));
        x.hen(0, 0);
        CHECKS.due("one who agrees in nothing", 1, x.best(0, 2));
        CHECKS.due("in nothing", 0, x.best(0, 3));
        x.hen(0, 0);
        CHECKS.due("of like ones the first", 1, x.best(0, 2));
        CHECKS.due("of the last", 1, x.best(2, 2));
        x.set(2, 2, 512);
        CHECKS.due("the last", 2, x.best(0, 2));
    }

    private static void three() {
        CHECKS.by("THREE (one, n 0 .. 3) .. of like ones the first .. (n 0: 0)");
        LaidByArgument x = farm(0, 0, 0);
        int[] first = {0, 1, 12, 133};
        for (int n = 0; n < 4; n++) {
            CHECKS.due("all like, n " + n, first[n], x.three(0, n, 0));
        }
        CHECKS.due("n 4", -2, x.three(0, 4, 0));
        CHECKS.due("n -1", -2, x.three(0, -1, 0));
        LaidByArgument y = farm(0, 0, 1, 9);
        int[] last = {0, 10, 120, 1330};
        for (int n = 0; n < 4; n++) {
            CHECKS.due("9 alone, n " + n, last[n], y.three(0, n, 0));
            CHECKS.due("laid by 9 alone, n " + n, n, y.three(0, n, 1));
        }
        LaidByArgument w = farm(0, 0, 512, 90);
        for (int n = 3; n >= 0; n--) {
            CHECKS.due("the longer ones ahead, 9 alone, n " + n, last[n], y.three(0, n, 0));
            CHECKS.due("the longer ones ahead, laid by 9 alone, n " + n, n, y.three(0, n, 1));
            CHECKS.due("the longer ones ahead, 0 alone, n " + n, first[n], w.three(0, n, 0));
            CHECKS.due("the longer ones ahead, laid by 0 alone, n " + n, n, w.three(0, n, 1));
        }
        LaidByArgument eggs = ofAll();
        Checks.rule(eggs, "lays eggs+1;yields 0;drops 0;");
        eggs.set(3, 0, 0);
        for (int n = 0; n < 4; n++) {
            CHECKS.due("each from her own eggs on, n " + n, first[n], eggs.three(0, n, 0));
            CHECKS.due("each from her own eggs on, laid, n " + n, (1 << n) - 1, eggs.three(0, n, 1));
        }
        CHECKS.by("(by the first one, then the next one, ..)");
        // 9, 0: 1 and 2, 3: 1 and none more, for each of these goes by nothing: of like ones 0, 9 and 2, 3.
        LaidByArgument z = farm(0, 0, 0, 9, 23, 90, 32);
        CHECKS.due("0 9 is ahead of 2 3, 3 2, 9 0", 11 * 1 + 10, z.three(0, 2, 0));
        CHECKS.due("they lay one", 1, z.three(0, 2, 1));
        z.against(0, 9, 0);
        CHECKS.due("2 3 is ahead of 3 2, 9 0", 11 * 3 + 4, z.three(0, 2, 0));
    }

    private static void toWhom() {
        CHECKS.by("the HEN who LAYS most by it; of like ones the first; NONE: nobody");
        CHECKS.due("nobody", -1, new LaidByArgument().whom(0, 0));
        LaidByArgument x = farm(0, 0, 0, 9);
        x.hen(0, 0);
        x.hen(0, 0);
        CHECKS.due("of like ones the first", 0, x.whom(9, 0));
        x.set(2, 1, 1);
        x.set(2, 2, 1);
        CHECKS.due("of the two others the first", 1, x.whom(9, 0));
        x.set(2, 1, 0);
        CHECKS.due("the last", 2, x.whom(9, 0));
    }

    private static void win() {
        CHECKS.by("the fewest ARGUMENTS of a MORNING (0 .. 3; any) behind which she HOLDS it; NONE");
        LaidByArgument x = farm(0, 0, 1);
        Checks.rule(x, "lays 0;yields point=holds;drops 0;");
        int[] due = {0, 1, 2, 3, -1, -1, -1, -1, -1, -1};
        for (int point = 0; point < 10; point++) {
            CHECKS.due("" + point, due[point], x.win(0, point));
        }
        for (int point = 9; point >= 0; point--) {
            CHECKS.due("the other way, " + point, due[point], x.win(0, point));
        }
        LaidByArgument y = farm(0, 0, 0);
        Checks.rule(y, "lays 0;yields holds<1;drops 0;");
        for (int point = 0; point < 10; point++) {
            CHECKS.due("by one alone, " + point, 1, y.win(0, point));
            CHECKS.due("by one alone, again, " + point, 1, y.win(0, point));
        }
    }

    private static void agree() {
        CHECKS.by("how many both HOLD, and how many neither does, together");
        LaidByArgument x = farm(0, 0, 0);
        x.hen(0, 0);
        CHECKS.due("neither any", 10, x.agree(0, 1));
        x.set(2, 0, 1023);
        CHECKS.due("one all", 0, x.agree(0, 1));
        x.set(2, 1, 1023);
        CHECKS.due("both all", 10, x.agree(0, 1));
        x.set(2, 1, 512);
        CHECKS.due("the last alone", 1, x.agree(1, 0));
    }

    private static void nightsInThought() {
        CHECKS.by("n NIGHTS (0 .. 30), in thought (there is no last DAY), ahead of each one ARGUMENT is PUT to one");
        LaidByArgument x = farm(0, 0, 1, 9);
        Checks.rule(x, "lays day-990;yields 1;drops day=1000 and point=9;");
        x.set(0, 0, 999);
        CHECKS.due("none: laid", 0, x.nights(0, 9, 0, 1));
        CHECKS.due("none: holds", 1, x.nights(0, 9, 0, 0));
        CHECKS.due("one, on the last day: laid", 9, x.nights(0, 9, 1, 1));
        CHECKS.due("one, on the last day: holds", 513, x.nights(0, 9, 1, 0));
        CHECKS.due("two: laid on 999 and 1000", 19, x.nights(0, 9, 2, 1));
        CHECKS.due("two: dropped on 1000", 1, x.nights(0, 9, 2, 0));
        int laid = 0;
        for (int day = 999; day < 1029; day++) {
            laid += day - 990;
        }
        CHECKS.due("thirty: laid", laid, x.nights(0, 9, 30, 1));
        CHECKS.due("thirty-one", -2, x.nights(0, 9, 31, 1));
        CHECKS.due("-1", -2, x.nights(0, 9, -1, 1));
        CHECKS.due("the day", 999, x.told(0, 0));
    }

    private static void toldOf() {
        CHECKS.by("a SHEET tells how much one would LAY by ARGUMENTS 0, 1, .., each PUT now (10 at most)");
        LaidByArgument x = farm(0, 0, 1, 9);
        x.sheet(0, 0, 9);
        CHECKS.due("of nine, all so", -1, x.tells(0, 0, 0));
        x.sheet(0, 0, 10);
        CHECKS.due("of ten, the last is otherwise", 9, x.tells(0, 0, 0));
        x.sheet(0, 0, 11);
        CHECKS.due("of eleven", -2, x.tells(0, 0, 0));
        CHECKS.by("KINDS (bits 0 .. 5)");
        CHECKS.due("by her own number, eggs and what she holds", 8, asked(1));
        x.sheet(0, 0, 0);
        CHECKS.due("all", 63, x.tells(0, 0, 1));
        Checks.row(x, 0, 0, 2);
        CHECKS.due("none", 0, x.tells(0, 0, 1));
        Checks.row(x, 0, 0, 1);
        CHECKS.due("the last", 32, x.tells(0, 0, 1));
        CHECKS.by("NUMBERS (bits 0 .. 9)");
        CHECKS.due("by her own kind, eggs and what she holds", 64, asked(2));
        LaidByArgument old = farm(3, 4, 1);
        Checks.row(old, 0, 0, 9);
        CHECKS.due("the last", 512, old.tells(0, 0, 2));
        Checks.row(old, 0, 0, 0);
        CHECKS.due("the first", 1, old.tells(0, 0, 2));
        Checks.row(old, 0, 0, 10);
        CHECKS.due("none", 0, old.tells(0, 0, 2));
        old.sheet(0, 0, 0);
        CHECKS.due("all", 1023, old.tells(0, 0, 2));
        daysTold();
        changedTold();
    }

    /** An OLD one of number 6, who has 2 eggs and holds 0, 9: what is asked first of a new object. */
    private static int asked(int what) {
        LaidByArgument x = farm(3, 6, 513, 9);
        Checks.rule(x, "lays eggs+1;yields 1;drops 0;");
        x.set(3, 0, 2);
        x.sheet(0, 0, what == 5 ? 1 : 10);
        x.cell(0, 0, 6);
        x.cell(0, 9, 12);
        return x.tells(0, 0, what);
    }

    private static void daysTold() {
        CHECKS.by("DAYS (of 0 .. 99: how many, the least)");
        LaidByArgument x = farm(0, 0, 2, 10);
        Checks.rule(x, "lays 1+(day=0)+(99<day)*3;yields 1;drops 0;");
        x.set(0, 0, 150);
        Checks.row(x, 0, 0, 2);
        CHECKS.due("0: how many", 1, x.tells(0, 0, 3));
        CHECKS.due("0: the least", 0, x.tells(0, 0, 4));
        Checks.row(x, 0, 0, 1);
        CHECKS.due("1 .. 99: how many", 99, x.tells(0, 0, 3));
        CHECKS.due("1 .. 99: the least", 1, x.tells(0, 0, 4));
        Checks.row(x, 0, 0, 4);
        CHECKS.due("100 and on: how many", 0, x.tells(0, 0, 3));
        CHECKS.due("100 and on: the least", -1, x.tells(0, 0, 4));
        Checks.rule(x, "lays day=99;yields 1;drops 0;");
        Checks.row(x, 0, 0, 1);
        CHECKS.due("99: how many", 1, x.tells(0, 0, 3));
        CHECKS.due("99: the least", 99, x.tells(0, 0, 4));
    }

    private static void changedTold() {
        CHECKS.by("were just that one HELD now if it isn't, or not if it is");
        CHECKS.due("by her own kind, number and eggs: any but 0", 1022, asked(5));
        LaidByArgument x = farm(0, 0, 1, 9, 19);
        x.sheet(0, 0, 10);
        CHECKS.due("were 0 not held", 1, x.tells(0, 0, 5));
        x.cell(0, 9, 2);
        CHECKS.due("were 1 held", 2, x.tells(0, 0, 5));
        x.cell(0, 9, 1);
        CHECKS.due("as it is, but by 2 .. 9", 1020, x.tells(0, 0, 5));
        x.cell(0, 9, 3);
        CHECKS.due("by none", 0, x.tells(0, 0, 5));
        x.sheet(0, 0, 9);
        CHECKS.due("by all", 1023, x.tells(0, 0, 5));
        CHECKS.by("TEXTS (bits), were they THE RULE");
        CHECKS.due("one", 1, x.tells(0, 0, 6));
        for (int i = 1; i < 6; i++) {
            Checks.read(x, "lays " + i + ";yields 1;drops 0;");
        }
        CHECKS.due("six", 63, x.tells(0, 0, 6));
        x.sheet(0, 0, 10);
        x.cell(0, 9, 5);
        CHECKS.due("the last", 32, x.tells(0, 0, 6));
        CHECKS.by("HENS (bits) of whom it is so");
        CHECKS.due("none of one", 0, x.tells(0, 0, 7));
        x.sheet(0, 0, 0);
        CHECKS.due("one", 1, x.tells(0, 0, 7));
        for (int i = 1; i < 5; i++) {
            x.hen(0, 0);
        }
        CHECKS.due("five", 31, x.tells(0, 0, 7));
        Checks.row(x, 0, 0, 0, 0, 0, 0, 0, 0, 0, 0, 0, 1);
        x.set(2, 0, 0);
        x.set(2, 4, 1);
        CHECKS.due("the last", 16, x.tells(0, 0, 7));
    }

    private static int laidOnDraws(LaidByArgument x, int seed, int n) {
        int z = seed;
        int laid = 0;
        for (int i = 0; i < n; i++) {
            z = z * 1103515245 + 12345;
            laid += x.argue(0, (z >>> 9) % 10);
        }
        return laid;
    }

    private static LaidByArgument spread() {
        LaidByArgument x = farm(0, 0, 0, 1, 12, 23, 34, 45, 56, 67, 78, 89, 90, 13, 57);
        Checks.rule(x, "lays point+1;yields 1;drops 0;");
        return x;
    }

    private static void drawn() {
        CHECKS.by("a MORNING of n (0 .. 60), each (z >>> 9) % 10, z being z * 1103515245 + 12345 (an int; SEED at first)");
        int[] seeds = {0, 1, -1, 3, Integer.MAX_VALUE, Integer.MIN_VALUE};
        for (int seed : seeds) {
            CHECKS.due("seed " + seed + ", none", 0, spread().drawn(seed, 0, 0));
            for (int n = 1; n < 61; n += 59) {
                CHECKS.due("seed " + seed + ", " + n, laidOnDraws(spread(), seed, n), spread().drawn(seed, 0, n));
            }
        }
        CHECKS.due("61", -2, spread().drawn(0, 0, 61));
        CHECKS.due("-1", -2, spread().drawn(0, 0, -1));
        // By 0 z is 12345, >>> 9 that is 24; by -1 z is -1103502900, >>> 9 that is 6233328.
        LaidByArgument x = farm(0, 0, 1, 4, 8);
        Checks.rule(x, "lays point;yields 0;drops 0;");
        CHECKS.due("seed 0 draws 4 first", 4, x.drawn(0, 0, 1));
        CHECKS.due("seed -1 draws 8 first, of a z below 0", 8, x.drawn(-1, 0, 1));
    }

    private static void inSeeds() {
        CHECKS.by("IN m seeds (1 .. 20), SEED and each 1 more (an int), 8 ARGUMENTS: of these those by which that is k (0 .. 999) or more");
        int last = Integer.MAX_VALUE;
        int one = laidOnDraws(spread(), last, 8);
        int next = laidOnDraws(spread(), Integer.MIN_VALUE, 8);
        CHECKS.due("that is k", 1, spread().chance(last, 1, 0, one, 0));
        CHECKS.due("that is less than k", 0, spread().chance(last, 1, 0, one + 1, 0));
        int either = Math.max(one, next);
        int both = Math.min(one, next);
        CHECKS.due("behind the last int comes the least: they differ", 1, both < either ? 1 : 0);
        CHECKS.due("both: above", 1, spread().chance(last, 2, 0, both, 0));
        CHECKS.due("both: below", 1, spread().chance(last, 2, 0, both, 1));
        CHECKS.due("either: above", 1, spread().chance(last, 2, 0, either, 0));
        CHECKS.due("either: below", 2, spread().chance(last, 2, 0, either, 1));
        CHECKS.due("neither", 0, spread().chance(last, 2, 0, either + 1, 0));
        CHECKS.due("k 0", 1, spread().chance(5, 20, 0, 0, 1));
        CHECKS.due("k 999: above", 0, spread().chance(5, 20, 0, 999, 0));
        CHECKS.due("k 999: below", 1, spread().chance(5, 20, 0, 999, 1));
        int enough = 0;
        for (int i = 0; i < 20; i++) {
            enough += laidOnDraws(spread(), 5 + i, 8) >= one ? 1 : 0;
        }
        LaidByArgument x = spread();
        CHECKS.due("20: above to below", 20L * x.chance(5, 20, 0, one, 0), enough * x.chance(5, 20, 0, one, 1));
    }

    private static void share() {
        CHECKS.by("SHARE: how many STAND, of 10");
        CHECKS.due("all: above", 1, new LaidByArgument().share(0));
        CHECKS.due("all: below", 1, new LaidByArgument().share(1));
        CHECKS.due("none: above", 0, allAgainstAll().share(0));
        CHECKS.due("none: below", 1, allAgainstAll().share(1));
        CHECKS.due("nine: above", 9, farm(0, 0, 0, 90).share(0));
        CHECKS.due("nine: below", 10, farm(0, 0, 0, 90).share(1));
        CHECKS.due("eight: above", 4, farm(0, 0, 0, 90, 91).share(0));
        CHECKS.due("eight: below", 5, farm(0, 0, 0, 90, 91).share(1));
    }

    private static void image() {
        CHECKS.by("what is AGAINST what, DAY, NUMBERS, what all HOLD, EGGS, THE RULE (HENS that came since go)");
        LaidByArgument x = farm(5, 9, 1023, 9);
        x.set(0, 0, 999);
        x.set(3, 0, 999);
        Checks.rule(x, "lays 1;yields 1;drops 0;");
        x.image();
        x.against(0, 9, 0);
        x.against(9, 0, 1);
        x.set(0, 0, 0);
        x.set(1, 0, 0);
        x.set(2, 0, 0);
        x.set(3, 0, 0);
        x.force(0);
        x.hen(0, 0);
        x.back();
        CHECKS.due("against", 1, x.told(0, 6) == 0 && x.told(0, 7) == 512 && x.count(1) == 1 ? 1 : 0);
        CHECKS.due("day", 999, x.told(0, 0));
        CHECKS.due("number", 9, x.told(0, 1));
        CHECKS.due("holds", 1023, x.told(0, 2));
        CHECKS.due("eggs", 999, x.told(0, 3));
        CHECKS.due("kind", 5, x.told(0, 4));
        CHECKS.due("the rule", 1, x.count(5));
        CHECKS.due("hens", 1, x.count(0));
        CHECKS.due("she who came since", -2, x.told(1, 4));
    }

    private static void sheets() {
        CHECKS.by("SHEETS 0 .. 3 are rows of numbers, or missing (as all are at first)");
        LaidByArgument x = farm(0, 0, 0);
        for (int sheet = 0; sheet < 4; sheet++) {
            CHECKS.due("missing " + sheet, -11, x.cell(sheet, 0, 0));
            CHECKS.due("missing " + sheet + ", of a morning", -11, x.morning(sheet, 0, 0));
        }
        CHECKS.due("4", -2, x.cell(4, 0, 0));
        CHECKS.due("-1", -2, x.cell(-1, 0, 0));
        CHECKS.by("of sort 0 bytes, 1 shorts, 2 ints");
        int[] bits = {8, 16, 32};
        for (int sort = 0; sort < 3; sort++) {
            x.sheet(sort, sort, 1);
            for (int bit = 4; bit < 32; bit++) {
                x.cell(sort, 0, 1 << bit);
                CHECKS.due("sort " + sort + ", bit " + bit, bit < bits[sort] ? -2 : 0, x.morning(sort, 0, 0));
            }
        }
    }
}

/** Promises 7 to 9: THE TAPE, TEXTS, their FAULTS and what they are worth. */
public final class TextsTest {
    private static final Checks CHECKS = new Checks("TextsTest");

    public static void main(String[] args) {
        feeding();
        textsThatAreRead();
        faultsOfTokens();
        faultsOfGrammar();
        faultsByWhatIsOpen();
        aFaultLeavesAllElse();
        sixTexts();
        forcing();
        whatExpressionsAreWorth();
        whatNamesAreWorth();
        CHECKS.end();
    }

    private static void feeding() {
        LaidByArgument x = new LaidByArgument();
        CHECKS.due("feed(256)", -2, x.feed(256));
        CHECKS.due("feed(-1)", -2, x.feed(-1));
        CHECKS.due("feed(least)", -2, x.feed(Integer.MIN_VALUE));
        CHECKS.due("none came", 0, x.count(4));
        for (int i = 1; i <= 160; i++) {
            CHECKS.due("byte " + i, i, x.feed(i % 2 == 0 ? 0 : 255));
        }
        CHECKS.due("a byte more", -4, x.feed(32));
        CHECKS.due("bad ahead of full", -2, x.feed(256));
        CHECKS.due("160 bytes", 160, x.count(4));
        CHECKS.due("a byte that begins none", -100, x.text());
        CHECKS.due("empty by a fault", 0, x.count(4));
        CHECKS.due("first byte again", 1, x.feed(32));
    }

    private static void textsThatAreRead() {
        String[] good = {
            "lays against ; yields 1 ; drops 0 ;",
            "lays 1;yields 2;drops 3;",
            "\n lays\n1 ;\nyields 2;drops 9999 ;  \n",
            "lays 0000;yields 1and 2or 3;drops not point;",
            "lays(point)*-(-1);yields((((day))));drops 1<2 and 2=2 or not not 3<4;",
            "lays a",
        };
        for (int i = 0; i < 5; i++) {
            LaidByArgument x = new LaidByArgument();
            CHECKS.due("text " + good[i], 1, Checks.read(x, good[i]));
            CHECKS.due("empty then", 0, x.count(4));
            CHECKS.due("texts", 2, x.count(3));
            CHECKS.due("the rule stays", 0, x.count(5));
        }
        fault(good[5], 5);
        StringBuilder full = new StringBuilder("lays 1");
        while (full.length() < 142) {
            full.append("+1");
        }
        full.append(";yields 1;drops 0;");
        CHECKS.due("the length of a full tape", 160, full.length());
        CHECKS.due("a full tape", 1, Checks.read(new LaidByArgument(), full.toString()));
        full.setCharAt(159, '+');
        fault(full.toString(), 160);
        full.setCharAt(159, ')');
        fault(full.toString(), 159);
        full.setCharAt(159, ' ');
        fault(full.toString(), 160);
    }

    private static void fault(String text, int place) {
        CHECKS.due("the fault of \"" + text + "\"", -100 - place, Checks.read(new LaidByArgument(), text));
    }

    private static void faultsOfTokens() {
        fault("", 0);
        fault("   ", 3);
        fault("lays 1;yields 1;drops 0; \n ;", 27);
        fault("lays 1;yields 1;drops 0;#", 24);
        fault("lays #", 5);
        fault("lays 1 #", 7);
        fault("lays Point;", 5);
        fault("lays\t1;", 4);
        fault("lays 1\r;", 6);
        fault("lays 1 > 2;", 7);
        fault("lays 1/2;", 6);
        fault("lays " + (char) 0 + ";", 5);
        fault("lays " + (char) 233 + ";", 5);
        fault("lays 12345;", 5);
        fault("lays 1+ 00001;", 8);
        fault("lays 99999999999999999999;", 5);
        fault("lays points;", 5);
        fault("lays poin;", 5);
        fault("lays pointday;", 5);
        fault("lays xoint;", 5);
        fault("lays dayz;", 5);
        fault("lays aday;", 5);
        fault("lays day" + (char) 96 + ";", 8);
        fault("lays day{;", 8);
        fault("lays 1:;", 6);
        fault("lay 1;", 0);
        fault("layss 1;", 0);
        fault("lays1;yields 1;drops 0;x", 23);
        fault("lays 1 andy 2;", 7);
        fault("lays 1 or5;yields 0;drops 0", 27);
        fault("lays 1 12345;", 7);
    }

    private static void faultsOfGrammar() {
        fault("yields 1;", 0);
        fault("1;", 0);
        fault(";", 0);
        fault("lays", 4);
        fault("lays ", 5);
        fault("lays ;", 5);
        fault("lays 1", 6);
        fault("lays 1;", 7);
        fault("lays 1;;", 7);
        fault("lays 1;lays 1;", 7);
        fault("lays 1;drops 1;", 7);
        fault("lays 1;yields 1;yields 1;", 16);
        fault("lays 1;yields 1;drops 1", 23);
        fault("lays 1;yields 1;drops 1;lays", 24);
        fault("lays lays;", 5);
        fault("lays 1 2;", 7);
        fault("lays 1 point;", 7);
        fault("lays 1 (2);", 7);
        fault("lays (1;", 7);
        fault("lays (1", 7);
        fault("lays );", 5);
        fault("lays ();", 6);
        fault("lays 1);", 6);
        fault("lays +1;", 5);
        fault("lays 1+;", 7);
        fault("lays 1++1;", 7);
        fault("lays 1+-1*;", 10);
        fault("lays *1;", 5);
        fault("lays 1-;", 7);
        fault("lays -;", 6);
        fault("lays 1<2<3;", 8);
        fault("lays 1=2=3;", 8);
        fault("lays 1<2=3;", 8);
        fault("lays <1;", 5);
        fault("lays 1<;", 7);
        fault("lays 1=not 2;", 7);
        fault("lays 1+not 2;", 7);
        fault("lays -not 2;", 6);
        fault("lays and 1;", 5);
        fault("lays 1 and;", 10);
        fault("lays 1 and or 2;", 11);
        fault("lays 1 or;", 9);
        fault("lays not;", 8);
        fault("lays 1 not 2;", 7);
        // Of more than one, the first; also if the other is no token at all.
        fault("lays ; #", 5);
        fault("lays 1 2 12345 foo", 7);
    }

    private static void read(String expression) {
        CHECKS.due("the text of " + expression, 1,
            Checks.read(new LaidByArgument(), "lays " + expression + ";yields 1;drops 0;"));
    }

    private static void faultsByWhatIsOpen() {
        read("(((((1)))))");
        fault("lays ((((((1", 10);
        read("not not not not not 1");
        fault("lays not not not not not not 1", 25);
        read("-----1");
        fault("lays ------1", 10);
        read("--(-(1))");
        fault("lays --(-(-1", 10);
        fault("lays --(-((1", 10);
        fault("lays --(-(not", 10);
        fault("lays --(-(1+ -1", 13);
        read("not((not -1))");
        fault("lays not((not --1", 15);
        fault("lays not((not -(1", 15);
        fault("lays not((not(not 1", 14);
        fault("lays not not(((not 1", 15);
        fault("lays not not(((-1", 15);
        // What is done is not open any more: behind a ) , behind a ONE, behind a NOT.
        read("(((((1)))))+(((((2)))))");
        read("(((((1)+(2))*(3))))");
        read("-----1*-----1");
        read("((((-1*-1--1))))");
        read("not not not not not 1 and not not not not not 1");
        read("((((not 1 or not 1))))");
        // A not is open till its whole comparison ends, on both sides.
        read("not not not not -1 < -1 and -----1");
        fault("lays not not not not not 1 < -1", 29);
        fault("lays not not not not not 1 + -1", 29);
        fault("lays not not not not not 1 * (1", 29);
        // A - between two is none that is open.
        read("-----1-1-1-1");
        fault("lays -----1-1--(1+----1", 21);
    }

    private static void aFaultLeavesAllElse() {
        LaidByArgument x = new LaidByArgument();
        Checks.rule(x, "lays 7; yields 1; drops 0;");
        x.against(0, 1, 1);
        x.hen(0, 0);
        x.set(2, 0, 1);
        CHECKS.due("a fault", -121, Checks.read(x, "lays 9;yields 1;drops"));
        CHECKS.due("empty by it", 0, x.count(4));
        CHECKS.due("texts by it", 2, x.count(3));
        CHECKS.due("the rule by it", 1, x.count(5));
        CHECKS.due("lays by it", 7, x.asks(0, 1, 1));
        CHECKS.due("the next one", 2, Checks.read(x, "lays 9;yields 1;drops 0;"));
        CHECKS.due("lays by the rule still", 7, x.asks(0, 1, 1));
        x.force(2);
        CHECKS.due("lays by the next one", 9, x.asks(0, 1, 1));
        CHECKS.due("a fault behind its first E", -107, Checks.read(x, "lays 2+"));
        CHECKS.due("one behind it", 3, Checks.read(x, "lays 3;yields 0;drops 1;"));
        x.force(3);
        CHECKS.due("lays by that", 3, x.asks(0, 1, 1));
        CHECKS.due("yields by that", 0, x.asks(0, 1, 2));
        CHECKS.due("drops by that", 1, x.asks(0, 1, 3));
    }

    private static void sixTexts() {
        LaidByArgument x = new LaidByArgument();
        for (int i = 1; i < 6; i++) {
            CHECKS.due("text " + i, i, Checks.read(x, "lays " + i + ";yields 1;drops 0;"));
        }
        CHECKS.due("texts", 6, x.count(3));
        CHECKS.due("on an empty tape", -4, x.text());
        Checks.feedAll(x, "lays 1;");
        CHECKS.due("full ahead of a fault", -4, x.text());
        CHECKS.due("the tape stays", 7, x.count(4));
        CHECKS.due("and grows", 8, x.feed('y'));
        x.against(0, 1, 1);
        x.hen(0, 0);
        x.set(2, 0, 1);
        for (int i = 1; i < 6; i++) {
            x.force(i);
            CHECKS.due("lays by text " + i, i, x.asks(0, 1, 1));
        }
    }

    private static void forcing() {
        LaidByArgument x = new LaidByArgument();
        CHECKS.due("force(1) without it", -2, x.force(1));
        CHECKS.due("force(0)", 0, x.force(0));
        CHECKS.due("force(-1)", -2, x.force(-1));
        Checks.read(x, "lays 1;yields 1;drops 0;");
        CHECKS.due("force(1)", 0, x.force(1));
        CHECKS.due("the rule", 1, x.count(5));
        CHECKS.due("force(2)", -2, x.force(2));
        CHECKS.due("force(6)", -2, x.force(6));
        CHECKS.due("the rule stays", 1, x.count(5));
        CHECKS.due("force(1) again", 1, x.force(1));
        CHECKS.due("force(0) again", 1, x.force(0));
        CHECKS.due("the first rule", 0, x.count(5));
    }

    /** What an E is worth, looked at by a hen who holds 0, which is AGAINST 3, in parts of up to 99. */
    private static void worth(String expression, int due) {
        LaidByArgument x = new LaidByArgument();
        x.against(0, 3, 1);
        x.hen(0, 4);
        x.set(0, 0, 17);
        x.set(2, 0, 33);
        x.set(3, 0, 6);
        int number = Checks.read(x, "lays (" + expression + ")=" + due
            + ";yields(" + expression + ")=" + due + ";drops 0;");
        CHECKS.due("the text of " + expression, 1, number);
        x.force(1);
        CHECKS.due(expression + " is " + due, 1, x.asks(0, 3, 1));
        CHECKS.due(expression + " is " + due + ", where she yields", 1, x.asks(0, 3, 2));
    }

    private static void whatExpressionsAreWorth() {
        worth("2+3*4", 14);
        worth("(2+3)*4", 20);
        worth("10-3-2", 5);
        worth("10-3+2", 9);
        worth("2*3*4", 24);
        worth("-2*3", -6);
        worth("--2", 2);
        worth("2--3", 5);
        worth("-(2+3)", -5);
        worth("1 or 0", 1);
        worth("0 or 0", 0);
        worth("5 or 0", 1);
        worth("0 or 7", 1);
        worth("5 and 7", 1);
        worth("5 and 0", 0);
        worth("0 and 7", 0);
        worth("-1 and -1", 1);
        worth("0 and 0 or 1", 1);
        worth("1 or 0 and 0", 1);
        worth("(1 or 0) and 0", 0);
        worth("not 0", 1);
        worth("not 5", 0);
        worth("not not 5", 1);
        worth("not 1 = 2", 1);
        worth("not 0 and 0", 0);
        worth("not 0 or 1", 1);
        worth("1 < 2", 1);
        worth("2 < 2", 0);
        worth("3 < 2", 0);
        worth("-1 < 0", 1);
        worth("2 = 2", 1);
        worth("2 = 3", 0);
        worth("1+1 = 2", 1);
        worth("1 < 1+1", 1);
        worth("9999", 9999);
        worth("0007", 7);
        worth("9999*9999 = 9998*1000*10+1", 1);
        worth("7", 7);
        worth("9999*9999*9999 < 0 and 1", 9999 * 9999 * 9999 < 0 ? 1 : 0);
        worth("9999*9999*22 < 0", 9999 * 9999 * 22 < 0 ? 1 : 0);
    }

    private static void whatNamesAreWorth() {
        worth("point", 3);
        worth("against", 1);
        worth("holds", 2);
        worth("number", 4);
        worth("day", 17);
        worth("eggs", 6);
    }
}

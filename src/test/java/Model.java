import java.util.ArrayList;
import java.util.List;
import java.util.TreeSet;

/**
 * The document once more, told in another way: sets for bits, a class for each KIND, a tree for a TEXT,
 * a new thought for each question. It answers slowly what the program answers by rows and bits.
 */
final class Model {
    static final int BAD = -2;
    static final long NO = -4611686018427387904L;

    static final class Fault extends RuntimeException {
        private static final long serialVersionUID = 1;
        final int place;

        Fault(int place) {
            this.place = place;
        }
    }

    /** An E; what it is worth, by the six names' worths. */
    interface Expression {
        int worth(int[] names);
    }

    static final class Rule {
        Expression lays;
        Expression yields;
        Expression drops;
    }

    /** Reads a TEXT byte by byte, as the grammar stands, and throws its first FAULT. */
    static final class Grammar {
        private static final List<String> NAMES = List.of("point", "against", "holds", "number", "day", "eggs");
        private static final List<String> KEYS = List.of("lays", "yields", "drops", "or", "and", "not");
        private final String text;
        private int at;
        private int open;

        Grammar(String text) {
            this.text = text;
        }

        Rule rule() {
            Rule rule = new Rule();
            take("lays");
            rule.lays = either();
            take(";");
            take("yields");
            rule.yields = either();
            take(";");
            take("drops");
            rule.drops = either();
            take(";");
            if (!peek().isEmpty()) {
                throw new Fault(at);
            }
            return rule;
        }

        /** The next TOKEN, with at on its first byte; "" at the end, "?" if it is none. */
        private String peek() {
            while (at < text.length() && (text.charAt(at) == 32 || text.charAt(at) == 10)) {
                at++;
            }
            if (at == text.length()) {
                return "";
            }
            int end = at;
            while (end < text.length() && text.charAt(end) >= 'a' && text.charAt(end) <= 'z') {
                end++;
            }
            if (end > at) {
                String word = text.substring(at, end);
                return NAMES.contains(word) || KEYS.contains(word) ? word : "?";
            }
            while (end < text.length() && text.charAt(end) >= '0' && text.charAt(end) <= '9') {
                end++;
            }
            if (end > at) {
                return end - at > 4 ? "?" : text.substring(at, end);
            }
            String sign = text.substring(at, at + 1);
            return "();+-*<=".contains(sign) ? sign : "?";
        }

        private void take(String token) {
            if (!peek().equals(token)) {
                throw new Fault(at);
            }
            at += token.length();
        }

        private boolean isTaken(String token) {
            if (!peek().equals(token)) {
                return false;
            }
            at += token.length();
            return true;
        }

        private void open(String token) {
            peek();
            if (open == 5) {
                throw new Fault(at);
            }
            take(token);
            open++;
        }

        private Expression either() {
            Expression left = both();
            while (isTaken("or")) {
                Expression one = left;
                Expression other = both();
                left = names -> one.worth(names) != 0 | other.worth(names) != 0 ? 1 : 0;
            }
            return left;
        }

        private Expression both() {
            Expression left = truth();
            while (isTaken("and")) {
                Expression one = left;
                Expression other = truth();
                left = names -> one.worth(names) != 0 & other.worth(names) != 0 ? 1 : 0;
            }
            return left;
        }

        private Expression truth() {
            if (peek().equals("not")) {
                open("not");
                Expression one = truth();
                open--;
                return names -> one.worth(names) == 0 ? 1 : 0;
            }
            Expression left = sum();
            if (isTaken("<")) {
                Expression right = sum();
                return names -> left.worth(names) < right.worth(names) ? 1 : 0;
            }
            if (isTaken("=")) {
                Expression right = sum();
                return names -> left.worth(names) == right.worth(names) ? 1 : 0;
            }
            return left;
        }

        private Expression sum() {
            Expression left = term();
            while (true) {
                Expression one = left;
                if (isTaken("+")) {
                    Expression other = term();
                    left = names -> one.worth(names) + other.worth(names);
                } else if (isTaken("-")) {
                    Expression other = term();
                    left = names -> one.worth(names) - other.worth(names);
                } else {
                    return left;
                }
            }
        }

        private Expression term() {
            Expression left = one();
            while (isTaken("*")) {
                Expression one = left;
                Expression other = one();
                left = names -> one.worth(names) * other.worth(names);
            }
            return left;
        }

        private Expression one() {
            String token = peek();
            if (token.equals("-")) {
                open("-");
                Expression one = one();
                open--;
                return names -> -one.worth(names);
            }
            if (token.equals("(")) {
                open("(");
                Expression inner = either();
                take(")");
                open--;
                return inner;
            }
            if (NAMES.contains(token)) {
                take(token);
                return names -> names[NAMES.indexOf(token)];
            }
            if (!token.isEmpty() && Character.isDigit(token.charAt(0))) {
                take(token);
                return names -> Integer.parseInt(token);
            }
            throw new Fault(at);
        }
    }

    /** One HEN; each KIND is a class under the one that it is under. */
    static class Hen {
        int number;
        TreeSet<Integer> holds = new TreeSet<>();
        int eggs;

        int kind() {
            return 0;
        }

        int lays(Model m, int point, int day, Rule rule) {
            return m.objectors(this, point) == 0 ? 0 : m.told(rule.lays, this, point, day, 0, 99);
        }

        boolean yields(Model m, int point, int day, Rule rule) {
            return m.told(rule.yields, this, point, day) != 0;
        }

        boolean drops(Model m, int point, int day, Rule rule) {
            return m.told(rule.drops, this, point, day) != 0;
        }

        final int bounded(Model m, int point, int day, Rule rule) {
            return Math.min(99, Math.max(0, lays(m, point, day, rule)));
        }

        final Hen as(int kind) {
            Hen other = ofKind(kind);
            other.number = number;
            other.eggs = eggs;
            other.holds = new TreeSet<>(holds);
            return other;
        }

        static Hen ofKind(int kind) {
            switch (kind) {
                case 0: return new Hen();
                case 1: return new Pullet();
                case 2: return new Broody();
                case 3: return new Old();
                case 4: return new College();
                default: return new Speckled();
            }
        }
    }

    static class Pullet extends Hen {
        @Override int kind() {
            return 1;
        }

        @Override int lays(Model m, int point, int day, Rule rule) {
            return 2 * super.lays(m, point, day, rule);
        }

        @Override boolean yields(Model m, int point, int day, Rule rule) {
            return true;
        }
    }

    static class Broody extends Hen {
        @Override int kind() {
            return 2;
        }

        @Override int lays(Model m, int point, int day, Rule rule) {
            return day % 3 == 0 ? 0 : super.lays(m, point, day, rule);
        }

        @Override boolean yields(Model m, int point, int day, Rule rule) {
            return super.yields(m, point, day, rule) && m.objectors(this, point) < 2;
        }

        @Override boolean drops(Model m, int point, int day, Rule rule) {
            return false;
        }
    }

    static class Old extends Pullet {
        @Override int kind() {
            return 3;
        }

        @Override int lays(Model m, int point, int day, Rule rule) {
            int asPullet = super.lays(m, point, day, rule);
            return holds.contains(point) ? asPullet + number : asPullet;
        }

        @Override boolean yields(Model m, int point, int day, Rule rule) {
            return number % 2 == 1 && super.yields(m, point, day, rule);
        }
    }

    static class College extends Broody {
        @Override int kind() {
            return 4;
        }

        @Override int lays(Model m, int point, int day, Rule rule) {
            return Math.min(4, super.lays(m, point, day, rule));
        }

        @Override boolean yields(Model m, int point, int day, Rule rule) {
            return super.yields(m, point, day, rule) || holds.isEmpty();
        }

        @Override boolean drops(Model m, int point, int day, Rule rule) {
            return point == number;
        }
    }

    static class Speckled extends Hen {
        @Override int kind() {
            return 5;
        }

        @Override int lays(Model m, int point, int day, Rule rule) {
            return m.objectors(this, point) == 0 ? 1 : 0;
        }

        @Override boolean yields(Model m, int point, int day, Rule rule) {
            return false;
        }

        @Override boolean drops(Model m, int point, int day, Rule rule) {
            return !super.drops(m, point, day, rule);
        }
    }

    private boolean[][] isAgainst = new boolean[10][10];
    private List<Hen> flock = new ArrayList<>();
    private int day;
    private final StringBuilder tape = new StringBuilder();
    private final List<Rule> texts = new ArrayList<>();
    private int rule;
    private final long[][] sheets = new long[4][];
    private final int[] sorts = new int[4];
    private Model kept;

    Model() {
        texts.add(new Grammar("lays against ; yields 1 ; drops 0 ;").rule());
    }

    private int objectors(Hen hen, int point) {
        int many = 0;
        for (int held : hen.holds) {
            many += isAgainst[held][point] ? 1 : 0;
        }
        return many;
    }

    private int told(Expression e, Hen hen, int point, int onDay) {
        return e.worth(new int[] {point, objectors(hen, point), hen.holds.size(), hen.number, onDay, hen.eggs});
    }

    private int told(Expression e, Hen hen, int point, int onDay, int least, int most) {
        return Math.min(most, Math.max(least, told(e, hen, point, onDay)));
    }

    private Rule now() {
        return texts.get(rule);
    }

    private int put(Hen hen, int point) {
        return put(hen, point, day);
    }

    private int put(Hen hen, int point, int onDay) {
        int lays = hen.bounded(this, point, onDay, now());
        boolean yields = hen.yields(this, point, onDay, now());
        hen.eggs = Math.min(999, hen.eggs + lays);
        if (yields) {
            hen.holds.add(point);
            hen.holds.removeIf(held -> isAgainst[point][held]);
        }
        return lays;
    }

    private void sleep(Hen hen, int onDay) {
        TreeSet<Integer> left = new TreeSet<>();
        for (int held : hen.holds) {
            if (!hen.drops(this, held, onDay, now())) {
                left.add(held);
            }
        }
        hen.holds = left;
    }

    private static int bits(TreeSet<Integer> set) {
        int bits = 0;
        for (int one : set) {
            bits += 1 << one;
        }
        return bits;
    }

    private static TreeSet<Integer> set(int bits) {
        TreeSet<Integer> set = new TreeSet<>();
        for (int one = 0; one < 10; one++) {
            if ((bits & 1 << one) != 0) {
                set.add(one);
            }
        }
        return set;
    }

    private static boolean in(int v, int most) {
        return 0 <= v && v <= most;
    }

    private boolean isHen(int hen) {
        return in(hen, flock.size() - 1);
    }

    int against(int one, int other, int on) {
        if (!in(one, 9) || !in(other, 9) || one == other || !in(on, 1)) {
            return BAD;
        }
        int was = isAgainst[one][other] ? 1 : 0;
        isAgainst[one][other] = on == 1;
        return was;
    }

    int set(int what, int of, int v) {
        if (!in(what, 3) || what > 0 && !isHen(of) || !in(v, new int[] {999, 9, 1023, 999}[what])) {
            return BAD;
        }
        int was = told(of, what);
        switch (what) {
            case 0: day = v; break;
            case 1: flock.get(of).number = v; break;
            case 2: flock.get(of).holds = set(v); break;
            default: flock.get(of).eggs = v;
        }
        return was;
    }

    int hen(int kind, int number) {
        if (!in(kind, 5) || !in(number, 9)) {
            return BAD;
        }
        if (flock.size() == 5) {
            return -4;
        }
        Hen hen = Hen.ofKind(kind);
        hen.number = number;
        flock.add(hen);
        return flock.size() - 1;
    }

    int told(int of, int what) {
        if (!in(what, 7) || what > 5 && !in(of, 9) || what > 0 && what < 6 && !isHen(of)) {
            return BAD;
        }
        TreeSet<Integer> some = new TreeSet<>();
        switch (what) {
            case 0: return day;
            case 1: return flock.get(of).number;
            case 2: return bits(flock.get(of).holds);
            case 3: return flock.get(of).eggs;
            case 4: return flock.get(of).kind();
            case 5:
                for (int held : flock.get(of).holds) {
                    if (flock.get(of).drops(this, held, day, now())) {
                        some.add(held);
                    }
                }
                return bits(some);
            default:
                for (int other = 0; other < 10; other++) {
                    if (what == 6 ? isAgainst[other][of] : isAgainst[of][other]) {
                        some.add(other);
                    }
                }
                return bits(some);
        }
    }

    int asks(int hen, int point, int what) {
        if (!isHen(hen) || !in(point, 9) || !in(what, 3)) {
            return BAD;
        }
        Hen one = flock.get(hen);
        switch (what) {
            case 0: return objectors(one, point);
            case 1: return one.bounded(this, point, day, now());
            case 2: return one.yields(this, point, day, now()) ? 1 : 0;
            default: return one.drops(this, point, day, now()) ? 1 : 0;
        }
    }

    int feed(int letter) {
        if (!in(letter, 255)) {
            return BAD;
        }
        if (tape.length() == 160) {
            return -4;
        }
        tape.append((char) letter);
        return tape.length();
    }

    int text() {
        if (texts.size() == 6) {
            return -4;
        }
        String text = tape.toString();
        tape.setLength(0);
        try {
            texts.add(new Grammar(text).rule());
        } catch (Fault fault) {
            return -100 - fault.place;
        }
        return texts.size() - 1;
    }

    int force(int text) {
        if (!in(text, texts.size() - 1)) {
            return BAD;
        }
        int was = rule;
        rule = text;
        return was;
    }

    int argue(int hen, int point) {
        return isHen(hen) && in(point, 9) ? put(flock.get(hen), point) : BAD;
    }

    int night() {
        if (day == 999) {
            return -3;
        }
        int all = 0;
        for (Hen hen : flock) {
            sleep(hen, day);
            all += hen.holds.size();
        }
        day++;
        return all;
    }

    private Hen thought(int hen) {
        return flock.get(hen).as(flock.get(hen).kind());
    }

    private int refusalOfMorning(int sheet) {
        if (sheets[sheet] == null) {
            return -11;
        }
        for (long point : sheets[sheet]) {
            if (point < 0 || point > 9) {
                return BAD;
            }
        }
        return 0;
    }

    int morning(int sheet, int hen, int what) {
        if (!in(sheet, 3) || !isHen(hen) || !in(what, 3)) {
            return BAD;
        }
        if (refusalOfMorning(sheet) != 0) {
            return refusalOfMorning(sheet);
        }
        Hen one = thought(hen);
        int[] answers = new int[4];
        for (long point : sheets[sheet]) {
            answers[3] += one.yields(this, (int) point, day, now()) ? 1 : 0;
            int laid = put(one, (int) point);
            answers[0] += laid;
            answers[2] += laid == 0 ? 1 : 0;
        }
        answers[1] = bits(one.holds);
        return answers[what];
    }

    int teach(int sheet, int hen) {
        int laid = morning(sheet, hen, 0);
        if (laid >= 0) {
            for (long point : sheets[sheet]) {
                put(flock.get(hen), (int) point);
            }
        }
        return laid;
    }

    int nights(int hen, int point, int n, int what) {
        if (!isHen(hen) || !in(point, 9) || !in(n, 30) || !in(what, 1)) {
            return BAD;
        }
        Hen one = thought(hen);
        int laid = 0;
        for (int onDay = day; onDay < day + n; onDay++) {
            laid += put(one, point, onDay);
            sleep(one, onDay);
        }
        return what == 0 ? bits(one.holds) : laid;
    }

    /** What each is by the labels that come: 1 STANDS, 2 is out, 0 neither. */
    private int[] labels() {
        int[] labels = new int[10];
        boolean more = true;
        while (more) {
            more = false;
            for (int point = 0; point < 10; point++) {
                boolean allOut = true;
                boolean oneStands = false;
                for (int other = 0; other < 10; other++) {
                    allOut &= !isAgainst[other][point] || labels[other] == 2;
                    oneStands |= isAgainst[other][point] && labels[other] == 1;
                }
                int label = allOut ? 1 : oneStands ? 2 : 0;
                more |= label != labels[point];
                labels[point] = label;
            }
        }
        return labels;
    }

    int field(int what) {
        int[] labels = labels();
        int[] answers = {0, 0, 0, 0, -1, 0};
        if (!in(what, 5)) {
            return BAD;
        }
        for (int one = 0; one < 10; one++) {
            answers[0] += labels[one] == 1 ? 1 << one : 0;
            answers[1] += labels[one] == 2 ? 1 << one : 0;
            for (int other = 0; other < 10; other++) {
                answers[5] += isAgainst[one][other] && (labels[one] == 2 || labels[other] == 2) ? 1 : 0;
            }
        }
        for (int set = 1023; set >= 0; set--) {
            answers[2] += sets(set, 0);
            answers[3] += sets(set, 1);
            answers[4] = sets(set, 1) == 1 ? set : answers[4];
        }
        return answers[what];
    }

    private boolean anyAgainst(TreeSet<Integer> some, int point) {
        for (int one : some) {
            if (isAgainst[one][point]) {
                return true;
            }
        }
        return false;
    }

    int sets(int bits, int what) {
        if (!in(bits, 1023) || !in(what, 2)) {
            return BAD;
        }
        TreeSet<Integer> set = set(bits);
        boolean free = true;
        boolean stable = true;
        TreeSet<Integer> defended = new TreeSet<>();
        for (int point = 0; point < 10; point++) {
            boolean struck = anyAgainst(set, point);
            free &= !set.contains(point) || !struck;
            stable &= set.contains(point) || struck;
            boolean safe = true;
            for (int other = 0; other < 10; other++) {
                safe &= !isAgainst[other][point] || anyAgainst(set, other);
            }
            if (safe) {
                defended.add(point);
            }
        }
        return what == 0 ? free ? 1 : 0 : what == 1 ? free && stable ? 1 : 0 : bits(defended);
    }

    private static long lowest(int above, int below, int part) {
        for (int by = below; by > 1; by--) {
            if (above % by == 0 && below % by == 0) {
                return part == 0 ? above / by : below / by;
            }
        }
        return part == 0 ? above : below;
    }

    long share(int part) {
        return in(part, 1) ? lowest(set(field(0)).size(), 10, part) : NO;
    }

    int best(int hen, int what) {
        if (!isHen(hen) || !in(what, 3)) {
            return BAD;
        }
        int[] answers = {0, -1, -1, -1};
        for (int point = 0; point < 10; point++) {
            if (asks(hen, point, 1) > answers[1]) {
                answers[0] = point;
                answers[1] = asks(hen, point, 1);
            }
        }
        for (int other = 0; other < flock.size(); other++) {
            if (other != hen && agree(hen, other) > answers[3]) {
                answers[2] = other;
                answers[3] = agree(hen, other);
            }
        }
        return answers[what];
    }

    private void tryAll(Hen ahead, int number, int laid, int left, int[] best) {
        if (left == 0) {
            if (laid > best[1]) {
                best[0] = number;
                best[1] = laid;
            }
            return;
        }
        for (int point = 0; point < 10; point++) {
            Hen one = ahead.as(ahead.kind());
            int more = put(one, point);
            tryAll(one, number * 11 + point + 1, laid + more, left - 1, best);
        }
    }

    int three(int hen, int n, int what) {
        if (!isHen(hen) || !in(n, 3) || !in(what, 1)) {
            return BAD;
        }
        int[] best = {-1, -1};
        tryAll(flock.get(hen), 0, 0, n, best);
        return best[what];
    }

    int whom(int point, int what) {
        if (!in(point, 9) || !in(what, 1)) {
            return BAD;
        }
        int[] best = {-1, -1};
        for (int hen = 0; hen < flock.size(); hen++) {
            if (asks(hen, point, 1) > best[1]) {
                best[0] = hen;
                best[1] = asks(hen, point, 1);
            }
        }
        return best[what];
    }

    private boolean holdsBehind(Hen ahead, int point, int left) {
        if (left == 0) {
            return ahead.holds.contains(point);
        }
        for (int next = 0; next < 10; next++) {
            Hen one = ahead.as(ahead.kind());
            put(one, next);
            if (holdsBehind(one, point, left - 1)) {
                return true;
            }
        }
        return false;
    }

    int win(int hen, int point) {
        if (!isHen(hen) || !in(point, 9)) {
            return BAD;
        }
        for (int n = 0; n <= 3; n++) {
            if (holdsBehind(flock.get(hen), point, n)) {
                return n;
            }
        }
        return -1;
    }

    int agree(int hen, int other) {
        if (!isHen(hen) || !isHen(other) || hen == other) {
            return BAD;
        }
        int like = 0;
        for (int point = 0; point < 10; point++) {
            like += flock.get(hen).holds.contains(point) == flock.get(other).holds.contains(point) ? 1 : 0;
        }
        return like;
    }

    private int otherwise(int sheet, Hen hen, int onDay, Rule by) {
        for (int i = 0; i < sheets[sheet].length; i++) {
            if (sheets[sheet][i] != hen.bounded(this, i, onDay, by)) {
                return i;
            }
        }
        return -1;
    }

    private boolean so(int sheet, Hen hen, int onDay, Rule by) {
        return otherwise(sheet, hen, onDay, by) == -1;
    }

    int tells(int sheet, int hen, int what) {
        if (!in(sheet, 3) || !isHen(hen) || !in(what, 7)) {
            return BAD;
        }
        if (sheets[sheet] == null) {
            return -11;
        }
        if (sheets[sheet].length > 10) {
            return BAD;
        }
        Hen one = flock.get(hen);
        int[] answers = {otherwise(sheet, one, day, now()), 0, 0, 0, -1, 0, 0, 0};
        for (int kind = 0; kind < 6; kind++) {
            answers[1] += so(sheet, one.as(kind), day, now()) ? 1 << kind : 0;
        }
        for (int i = 0; i < 10; i++) {
            Hen numbered = thought(hen);
            numbered.number = i;
            answers[2] += so(sheet, numbered, day, now()) ? 1 << i : 0;
            Hen holding = thought(hen);
            if (!holding.holds.remove(i)) {
                holding.holds.add(i);
            }
            answers[5] += so(sheet, holding, day, now()) ? 1 << i : 0;
        }
        for (int onDay = 99; onDay >= 0; onDay--) {
            if (so(sheet, one, onDay, now())) {
                answers[3]++;
                answers[4] = onDay;
            }
        }
        for (int i = 0; i < texts.size(); i++) {
            answers[6] += so(sheet, one, day, texts.get(i)) ? 1 << i : 0;
        }
        for (int i = 0; i < flock.size(); i++) {
            answers[7] += so(sheet, flock.get(i), day, now()) ? 1 << i : 0;
        }
        return answers[what];
    }

    int film(int sheet, int hen) {
        if (!in(sheet, 3) || !isHen(hen)) {
            return BAD;
        }
        sheets[sheet] = new long[10];
        sorts[sheet] = 0;
        int all = 0;
        for (int point = 0; point < 10; point++) {
            sheets[sheet][point] = asks(hen, point, 1);
            all += asks(hen, point, 1);
        }
        return all;
    }

    int drawn(int seed, int hen, int n) {
        if (!isHen(hen) || !in(n, 60)) {
            return BAD;
        }
        Hen one = thought(hen);
        int laid = 0;
        long z = seed & 0xffffffffL;
        for (int k = 0; k < n; k++) {
            z = (z * 1103515245L + 12345L) & 0xffffffffL;
            laid += put(one, (int) (z / 512 % 10));
        }
        return laid;
    }

    long chance(int seed, int m, int hen, int k, int part) {
        if (!in(m - 1, 19) || !isHen(hen) || !in(k, 999) || !in(part, 1)) {
            return NO;
        }
        int enough = 0;
        for (int i = 0; i < m; i++) {
            enough += drawn(seed + i, hen, 8) >= k ? 1 : 0;
        }
        return lowest(enough, m, part);
    }

    private void keep(Model from) {
        day = from.day;
        rule = from.rule;
        isAgainst = new boolean[10][];
        for (int one = 0; one < 10; one++) {
            isAgainst[one] = from.isAgainst[one].clone();
        }
        flock = new ArrayList<>();
        for (Hen hen : from.flock) {
            flock.add(hen.as(hen.kind()));
        }
    }

    int image() {
        kept = new Model();
        kept.keep(this);
        return flock.size();
    }

    int back() {
        if (kept == null) {
            return -3;
        }
        keep(kept);
        return flock.size();
    }

    int count(int what) {
        int twos = 0;
        for (boolean[] row : isAgainst) {
            for (boolean on : row) {
                twos += on ? 1 : 0;
            }
        }
        int eggs = 0;
        for (Hen hen : flock) {
            eggs += hen.eggs;
        }
        return in(what, 5) ? new int[] {flock.size(), twos, eggs, texts.size(), tape.length(), rule}[what] : BAD;
    }

    int sheet(int sheet, int sort, int n) {
        if (!in(sheet, 3) || !in(sort + 1, 3) || sort >= 0 && n > 40) {
            return BAD;
        }
        if (sort >= 0 && n < 0) {
            return -14;
        }
        sheets[sheet] = sort < 0 ? null : new long[n];
        sorts[sheet] = sort;
        return 1;
    }

    int cell(int sheet, int i, int v) {
        if (!in(sheet, 3)) {
            return BAD;
        }
        if (sheets[sheet] == null) {
            return -11;
        }
        if (!in(i, sheets[sheet].length - 1)) {
            return -12;
        }
        long mask = new long[] {0xffL, 0xffffL, 0xffffffffL}[sorts[sheet]];
        sheets[sheet][i] = v & mask;
        return 1;
    }

    int copy(int sheet, int i, int other, int j, int n) {
        if (!in(sheet, 3) || !in(other, 3)) {
            return BAD;
        }
        if (sheets[sheet] == null || sheets[other] == null) {
            return -11;
        }
        if (sorts[sheet] != sorts[other]) {
            return -13;
        }
        if (i < 0 || j < 0 || n < 0 || (long) i + n > sheets[sheet].length || (long) j + n > sheets[other].length) {
            return -12;
        }
        long[] ahead = sheets[sheet].clone();
        for (int k = 0; k < n; k++) {
            sheets[other][j + k] = ahead[i + k];
        }
        return n;
    }

    int hens(int sheet, int sort, int from, int n) {
        if (!in(sheet, 3) || !in(sort, 2) || !in(n, 5)) {
            return BAD;
        }
        if (sheets[sheet] != null && sorts[sheet] != sort) {
            return -13;
        }
        if (sheets[sheet] == null) {
            return -11;
        }
        int came = 0;
        for (long k = from; k < from + 2L * n; k += 2) {
            if (k < 0 || k + 1 >= sheets[sheet].length) {
                return -12;
            }
            came += hen((int) sheets[sheet][(int) k], (int) sheets[sheet][(int) k + 1]) >= 0 ? 1 : 0;
        }
        return came;
    }

    int taken(int hen, int k) {
        if (!in(k, 5)) {
            return BAD;
        }
        if (!isHen(hen)) {
            return -11;
        }
        return Hen.ofKind(k).getClass().isInstance(flock.get(hen)) ? flock.get(hen).number : -13;
    }
}

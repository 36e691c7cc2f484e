/**
 * Ten arguments, some of which are against others, and up to five hens who lay by them.
 * The capitals in the comments are the words of DOC.md.
 */
public final class LaidByArgument {
    public static final int NONE = -1, BAD = -2, STATE = -3, FULL = -4;
    public static final long NO = -4611686018427387904L;

    private static final int NOTHING_THERE = -11, OUTSIDE = -12, OTHER_SORT = -13, BELOW_NOTHING = -14;
    private static final int NO_REFUSAL = 0;
    private static final int BEFORE_FAULTS = -100;

    private static final int ARGUMENTS = 10, ALL_ARGUMENTS = 1023;
    private static final int MOST_HENS = 5, MOST_NUMBER = 9, MOST_EGGS = 999, LAST_DAY = 999;
    private static final int MOST_LAID = 99, MOST_LAID_BY_COLLEGE = 4;
    private static final int MOST_NIGHTS = 30, DAYS_TOLD = 100;
    private static final int MOST_DRAWN = 60, DRAWN_IN_SEEDS = 8, MOST_SEEDS = 20;

    private static final int HEN = 0, PULLET = 1, BROODY = 2, OLD = 3, COLLEGE = 4, SPECKLED = 5, KINDS = 6;
    /** The KIND that each is under. */
    private static final int[] ABOVE = {NONE, HEN, HEN, PULLET, BROODY, HEN};

    private static final int SHEETS = 4, MOST_ITEMS = 40;
    private static final int MISSING = -1, BYTES = 0, SHORTS = 1, INTS = 2;

    private static final int MOST_TAPE = 160, MOST_TEXTS = 6, MOST_OPEN = 5, MOST_DIGITS = 4;
    private static final String FIRST_TEXT = "lays against ; yields 1 ; drops 0 ;";

    /** The parts of a TEXT. */
    private static final int LAYS = 0, YIELDS = 1, DROPS = 2, PARTS = 3;

    /** The WORDS: the NAMES, then the KEYS, which are TOKENS by these numbers. */
    private static final int POINT = 0, AGAINST = 1, HOLDS = 2, NUMBER = 3, DAY = 4, EGGS = 5, NAMES = 6;
    private static final int KEY_LAYS = 6, KEY_YIELDS = 7, KEY_DROPS = 8, KEY_OR = 9, KEY_AND = 10, KEY_NOT = 11;
    private static final int WORDS = 12;
    /** The other TOKENS; a SIGN is one by its byte. */
    private static final int A_NAME = 12, A_NUMBER = 13, END = 14, BROKEN = 15;
    private static final String SIGNS = "();+-*<=";

    /** The steps of a TEXT beside the NAMES; a NUMBER is a step by so much more than FIRST_NUMBER. */
    private static final int NEGATE = 6, NEGATE_TRUTH = 7, TIMES = 8, PLUS = 9, MINUS = 10;
    private static final int LESS = 11, SAME = 12, BOTH = 13, EITHER = 14, FIRST_NUMBER = 100;

    /** All MORNINGS of up to three ARGUMENTS: that of none, then ten, a hundred and a thousand. */
    private static final int MOST_TRIED = 3, MORNINGS = 1111;

    private final Strife strife = new Strife();
    private final Manner manner = new Manner(strife);
    private final Hen[] flock = new Hen[MOST_HENS];
    private final Tape tape = new Tape();
    private final Reader reader = new Reader();
    private final Text[] texts = new Text[MOST_TEXTS];
    private final Sheet[] sheets = new Sheet[SHEETS];
    private final Mornings mornings = new Mornings(manner);
    private final Image kept = new Image();
    /** She who is thought of, where nothing is to change. */
    private final Hen thought = new Hen();
    private int day;
    private int henCount;
    private int textCount;
    private int ruleNumber;

    public LaidByArgument() {
        for (int i = 0; i < flock.length; i++) {
            flock[i] = new Hen();
        }
        for (int i = 0; i < texts.length; i++) {
            texts[i] = new Text();
        }
        for (int i = 0; i < sheets.length; i++) {
            sheets[i] = new Sheet();
        }
        for (int i = 0; i < FIRST_TEXT.length(); i++) {
            tape.add(FIRST_TEXT.charAt(i));
        }
        text();
    }

    // ---- arguments, hens

    public int against(int one, int other, int on) {
        if (!isArgument(one) || !isArgument(other) || one == other || !isFrom0To(on, 1)) {
            return BAD;
        }
        int was = has(strife.struckBy(one), other) ? 1 : 0;
        strife.change(one, other, on == 1);
        return was;
    }

    public int set(int what, int of, int v) {
        if (!isFrom0To(what, 3) || !isFrom0To(v, mostOf(what))) {
            return BAD;
        }
        int was = told(of, what);
        Hen one = henAt(of);
        if (what == 0) {
            day = v;
        } else if (one == null) {
            return BAD;
        } else if (what == 1) {
            one.number = v;
        } else if (what == 2) {
            one.held = v;
        } else {
            one.eggs = v;
        }
        return was;
    }

    private static int mostOf(int what) {
        switch (what) {
            case 0:
                return LAST_DAY;
            case 1:
                return MOST_NUMBER;
            case 2:
                return ALL_ARGUMENTS;
            default:
                return MOST_EGGS;
        }
    }

    public int hen(int kind, int number) {
        if (!isKind(kind) || !isFrom0To(number, MOST_NUMBER)) {
            return BAD;
        }
        if (henCount >= flock.length) {
            return FULL;
        }
        flock[henCount].come(kind, number);
        henCount++;
        return henCount - 1;
    }

    public int told(int of, int what) {
        if (what == 0) {
            return day;
        }
        if (what == 6 || what == 7) {
            return toldOfArgument(of, what);
        }
        Hen one = henAt(of);
        if (one == null) {
            return BAD;
        }
        switch (what) {
            case 1:
                return one.number;
            case 2:
                return one.held;
            case 3:
                return one.eggs;
            case 4:
                return one.kind;
            case 5:
                return manner.droppedBy(one, day, rule());
            default:
                return BAD;
        }
    }

    private int toldOfArgument(int point, int what) {
        if (!isArgument(point)) {
            return BAD;
        }
        return what == 6 ? strife.strikersOf(point) : strife.struckBy(point);
    }

    public int asks(int hen, int point, int what) {
        Hen one = henAt(hen);
        if (one == null || !isArgument(point)) {
            return BAD;
        }
        switch (what) {
            case 0:
                return manner.objectors(one, point);
            case 1:
                return manner.laidBy(one, point, day, rule());
            case 2:
                return manner.isYielding(one, point, day, rule()) ? 1 : 0;
            case 3:
                return manner.isDropping(one, point, day, rule()) ? 1 : 0;
            default:
                return BAD;
        }
    }

    // ---- texts

    public int feed(int letter) {
        if (!isFrom0To(letter, 255)) {
            return BAD;
        }
        return tape.add(letter) ? tape.size() : FULL;
    }

    public int text() {
        if (textCount >= texts.length) {
            return FULL;
        }
        int fault = reader.read(tape);
        tape.empty();
        if (fault != NONE) {
            return BEFORE_FAULTS - fault;
        }
        texts[textCount].become(reader.draft());
        textCount++;
        return textCount - 1;
    }

    public int force(int text) {
        if (text < 0 || text >= textCount) {
            return BAD;
        }
        int was = ruleNumber;
        ruleNumber = text;
        return was;
    }

    private Text rule() {
        return ruleNumber >= 0 && ruleNumber < texts.length ? texts[ruleNumber] : texts[0];
    }

    // ---- putting, nights

    public int argue(int hen, int point) {
        Hen one = henAt(hen);
        if (one == null || !isArgument(point)) {
            return BAD;
        }
        return manner.put(one, point, day, rule());
    }

    public int night() {
        if (day >= LAST_DAY) {
            return STATE;
        }
        int held = 0;
        for (int i = 0; i < henCount && i < flock.length; i++) {
            manner.sleep(flock[i], day, rule());
            held += Integer.bitCount(flock[i].held);
        }
        day++;
        return held;
    }

    public int morning(int sheet, int hen, int what) {
        Sheet row = sheetAt(sheet);
        Hen one = henAt(hen);
        if (row == null || one == null || !isFrom0To(what, 3)) {
            return BAD;
        }
        int refusal = refusalOfMorning(row);
        if (refusal != NO_REFUSAL) {
            return refusal;
        }
        thought.become(one);
        return what == 3 ? yieldsOnMorning(row) : onMorning(row, what);
    }

    public int teach(int sheet, int hen) {
        Sheet row = sheetAt(sheet);
        Hen one = henAt(hen);
        if (row == null || one == null) {
            return BAD;
        }
        int refusal = refusalOfMorning(row);
        if (refusal != NO_REFUSAL) {
            return refusal;
        }
        int laid = 0;
        for (int i = 0; i < row.size(); i++) {
            laid += manner.put(one, row.item(i), day, rule());
        }
        return laid;
    }

    private static int refusalOfMorning(Sheet row) {
        if (row.isMissing()) {
            return NOTHING_THERE;
        }
        for (int i = 0; i < row.size(); i++) {
            if (!isArgument(row.item(i))) {
                return BAD;
            }
        }
        return NO_REFUSAL;
    }

    private int onMorning(Sheet row, int what) {
        int laid = 0;
        int nothingLaid = 0;
        for (int i = 0; i < row.size(); i++) {
            int now = manner.put(thought, row.item(i), day, rule());
            laid += now;
            if (now == 0) {
                nothingLaid++;
            }
        }
        if (what == 1) {
            return thought.held;
        }
        return what == 0 ? laid : nothingLaid;
    }

    private int yieldsOnMorning(Sheet row) {
        int yielded = 0;
        for (int i = 0; i < row.size(); i++) {
            if (manner.isYielding(thought, row.item(i), day, rule())) {
                yielded++;
            }
            manner.put(thought, row.item(i), day, rule());
        }
        return yielded;
    }

    public int nights(int hen, int point, int n, int what) {
        Hen one = henAt(hen);
        if (one == null || !isArgument(point) || !isFrom0To(n, MOST_NIGHTS) || !isFrom0To(what, 1)) {
            return BAD;
        }
        thought.become(one);
        int laid = 0;
        for (int k = 0; k < n; k++) {
            laid += manner.put(thought, point, day + k, rule());
            manner.sleep(thought, day + k, rule());
        }
        return what == 0 ? thought.held : laid;
    }

    // ---- which stand

    public int field(int what) {
        switch (what) {
            case 0:
                return strife.standing();
            case 1:
                return strife.struckByAll(strife.standing());
            case 2:
                return strife.freeSets();
            case 3:
                return strife.stableSets();
            case 4:
                return strife.leastStable();
            case 5:
                return strife.vain();
            default:
                return BAD;
        }
    }

    public int sets(int set, int what) {
        if (!isFrom0To(set, ALL_ARGUMENTS)) {
            return BAD;
        }
        switch (what) {
            case 0:
                return strife.isFree(set) ? 1 : 0;
            case 1:
                return strife.isStable(set) ? 1 : 0;
            case 2:
                return strife.defendedBy(set);
            default:
                return BAD;
        }
    }

    public long share(int part) {
        if (!isFrom0To(part, 1)) {
            return NO;
        }
        return partOfLowest(Integer.bitCount(strife.standing()), ARGUMENTS, part);
    }

    // ---- what would be best

    public int best(int hen, int what) {
        Hen one = henAt(hen);
        if (one == null) {
            return BAD;
        }
        switch (what) {
            case 0:
                return bestPoint(one);
            case 1:
                return manner.laidBy(one, bestPoint(one), day, rule());
            case 2:
                return nearestTo(hen);
            case 3:
                return henAt(nearestTo(hen)) == null ? NONE : agree(hen, nearestTo(hen));
            default:
                return BAD;
        }
    }

    private int bestPoint(Hen one) {
        int best = 0;
        int most = NONE;
        for (int point = 0; point < ARGUMENTS; point++) {
            int laid = manner.laidBy(one, point, day, rule());
            if (laid > most) {
                most = laid;
                best = point;
            }
        }
        return best;
    }

    private int nearestTo(int hen) {
        int nearest = NONE;
        int most = NONE;
        for (int other = 0; other < henCount; other++) {
            int like = other == hen ? NONE : agree(hen, other);
            if (like > most) {
                most = like;
                nearest = other;
            }
        }
        return nearest;
    }

    public int three(int hen, int n, int what) {
        Hen one = henAt(hen);
        if (one == null || !isFrom0To(n, MOST_TRIED) || !isFrom0To(what, 1)) {
            return BAD;
        }
        mornings.begin(one);
        for (int length = 1; length <= n; length++) {
            mornings.tryAll(length, day, rule());
        }
        int best = mornings.bestOf(n);
        return what == 0 ? mornings.numberOf(best) : mornings.laidOn(best);
    }

    public int whom(int point, int what) {
        if (!isArgument(point) || !isFrom0To(what, 1)) {
            return BAD;
        }
        int best = NONE;
        int most = NONE;
        for (int i = 0; i < henCount && i < flock.length; i++) {
            int laid = manner.laidBy(flock[i], point, day, rule());
            if (laid > most) {
                most = laid;
                best = i;
            }
        }
        return what == 0 ? best : most;
    }

    public int win(int hen, int point) {
        Hen one = henAt(hen);
        if (one == null || !isArgument(point)) {
            return BAD;
        }
        mornings.begin(one);
        for (int length = 0; length <= MOST_TRIED; length++) {
            mornings.tryAll(length, day, rule());
            if (mornings.isHeldBehind(length, point)) {
                return length;
            }
        }
        return NONE;
    }

    public int agree(int hen, int other) {
        Hen one = henAt(hen);
        Hen two = henAt(other);
        if (one == null || two == null || hen == other) {
            return BAD;
        }
        return ARGUMENTS - Integer.bitCount(one.held ^ two.held);
    }

    // ---- what was told of laying

    public int tells(int sheet, int hen, int what) {
        Sheet row = sheetAt(sheet);
        Hen one = henAt(hen);
        if (row == null || one == null || !isFrom0To(what, 7)) {
            return BAD;
        }
        if (row.isMissing()) {
            return NOTHING_THERE;
        }
        if (row.size() > ARGUMENTS) {
            return BAD;
        }
        switch (what) {
            case 0:
                return firstOtherwise(row, one, day, rule());
            case 1:
                return kindsTold(row, one);
            case 2:
                return numbersTold(row, one);
            case 3:
                return daysTold(row, one);
            case 4:
                return firstDayTold(row, one);
            case 5:
                return argumentsTold(row, one);
            case 6:
                return textsTold(row, one);
            default:
                return hensTold(row);
        }
    }

    private int firstOtherwise(Sheet row, Hen one, int onDay, Text by) {
        for (int i = 0; i < row.size(); i++) {
            if (row.item(i) != manner.laidBy(one, i, onDay, by)) {
                return i;
            }
        }
        return NONE;
    }

    private int kindsTold(Sheet row, Hen one) {
        int kinds = 0;
        thought.become(one);
        for (int kind = 0; kind < KINDS; kind++) {
            thought.kind = kind;
            if (firstOtherwise(row, thought, day, rule()) == NONE) {
                kinds |= 1 << kind;
            }
        }
        return kinds;
    }

    private int numbersTold(Sheet row, Hen one) {
        int numbers = 0;
        thought.become(one);
        for (int number = 0; number <= MOST_NUMBER; number++) {
            thought.number = number;
            if (firstOtherwise(row, thought, day, rule()) == NONE) {
                numbers |= 1 << number;
            }
        }
        return numbers;
    }

    private int daysTold(Sheet row, Hen one) {
        int days = 0;
        for (int onDay = 0; onDay < DAYS_TOLD; onDay++) {
            if (firstOtherwise(row, one, onDay, rule()) == NONE) {
                days++;
            }
        }
        return days;
    }

    private int firstDayTold(Sheet row, Hen one) {
        for (int onDay = 0; onDay < DAYS_TOLD; onDay++) {
            if (firstOtherwise(row, one, onDay, rule()) == NONE) {
                return onDay;
            }
        }
        return NONE;
    }

    private int argumentsTold(Sheet row, Hen one) {
        int points = 0;
        thought.become(one);
        for (int point = 0; point < ARGUMENTS; point++) {
            thought.held = one.held ^ (1 << point);
            if (firstOtherwise(row, thought, day, rule()) == NONE) {
                points |= 1 << point;
            }
        }
        return points;
    }

    private int textsTold(Sheet row, Hen one) {
        int bits = 0;
        for (int i = 0; i < textCount && i < texts.length; i++) {
            if (firstOtherwise(row, one, day, texts[i]) == NONE) {
                bits |= 1 << i;
            }
        }
        return bits;
    }

    private int hensTold(Sheet row) {
        int bits = 0;
        for (int i = 0; i < henCount && i < flock.length; i++) {
            if (firstOtherwise(row, flock[i], day, rule()) == NONE) {
                bits |= 1 << i;
            }
        }
        return bits;
    }

    public int film(int sheet, int hen) {
        Sheet row = sheetAt(sheet);
        Hen one = henAt(hen);
        if (row == null || one == null) {
            return BAD;
        }
        row.become(BYTES, ARGUMENTS);
        int laid = 0;
        for (int point = 0; point < ARGUMENTS; point++) {
            int now = manner.laidBy(one, point, day, rule());
            row.write(point, now);
            laid += now;
        }
        return laid;
    }

    public int drawn(int seed, int hen, int n) {
        Hen one = henAt(hen);
        if (one == null || !isFrom0To(n, MOST_DRAWN)) {
            return BAD;
        }
        return laidOnDrawn(seed, one, n);
    }

    private int laidOnDrawn(int seed, Hen one, int n) {
        thought.become(one);
        int z = seed;
        int laid = 0;
        for (int k = 0; k < n; k++) {
            z = z * 1103515245 + 12345;
            laid += manner.put(thought, (z >>> 9) % ARGUMENTS, day, rule());
        }
        return laid;
    }

    public long chance(int seed, int m, int hen, int k, int part) {
        Hen one = henAt(hen);
        if (m < 1 || m > MOST_SEEDS || one == null || !isFrom0To(k, MOST_EGGS) || !isFrom0To(part, 1)) {
            return NO;
        }
        int enough = 0;
        for (int i = 0; i < m; i++) {
            if (laidOnDrawn(seed + i, one, DRAWN_IN_SEEDS) >= k) {
                enough++;
            }
        }
        return partOfLowest(enough, m, part);
    }

    public int image() {
        kept.isThere = true;
        kept.strife.become(strife);
        kept.day = day;
        kept.ruleNumber = ruleNumber;
        kept.henCount = henCount;
        for (int i = 0; i < flock.length && i < kept.flock.length; i++) {
            kept.flock[i].become(flock[i]);
        }
        return henCount;
    }

    public int back() {
        if (!kept.isThere) {
            return STATE;
        }
        strife.become(kept.strife);
        day = kept.day;
        ruleNumber = kept.ruleNumber;
        henCount = kept.henCount;
        for (int i = 0; i < flock.length && i < kept.flock.length; i++) {
            flock[i].become(kept.flock[i]);
        }
        return henCount;
    }

    public int count(int what) {
        switch (what) {
            case 0:
                return henCount;
            case 1:
                return strife.twos();
            case 2:
                return eggsOfAll();
            case 3:
                return textCount;
            case 4:
                return tape.size();
            case 5:
                return ruleNumber;
            default:
                return BAD;
        }
    }

    private int eggsOfAll() {
        int eggs = 0;
        for (int i = 0; i < henCount && i < flock.length; i++) {
            eggs += flock[i].eggs;
        }
        return eggs;
    }

    // ---- the host

    public int sheet(int sheet, int sort, int n) {
        Sheet row = sheetAt(sheet);
        if (row == null || sort != MISSING && !isSort(sort)) {
            return BAD;
        }
        if (sort == MISSING) {
            row.become(MISSING, 0);
            return 1;
        }
        if (n > MOST_ITEMS) {
            return BAD;
        }
        if (n < 0) {
            return BELOW_NOTHING;
        }
        row.become(sort, n);
        return 1;
    }

    public int cell(int sheet, int i, int v) {
        Sheet row = sheetAt(sheet);
        if (row == null) {
            return BAD;
        }
        if (row.isMissing()) {
            return NOTHING_THERE;
        }
        if (!row.hasItems(i, 1)) {
            return OUTSIDE;
        }
        row.write(i, v);
        return 1;
    }

    public int copy(int sheet, int i, int other, int j, int n) {
        Sheet from = sheetAt(sheet);
        Sheet to = sheetAt(other);
        if (from == null || to == null) {
            return BAD;
        }
        if (from.isMissing() || to.isMissing()) {
            return NOTHING_THERE;
        }
        if (from.sort() != to.sort()) {
            return OTHER_SORT;
        }
        if (!from.hasItems(i, n) || !to.hasItems(j, n)) {
            return OUTSIDE;
        }
        from.copyTo(i, to, j, n);
        return n;
    }

    public int hens(int sheet, int sort, int from, int n) {
        Sheet row = sheetAt(sheet);
        if (row == null || !isSort(sort) || !isFrom0To(n, MOST_HENS)) {
            return BAD;
        }
        // What is missing can be taken for any sort, so this goes ahead of OTHER_SORT.
        if (row.isMissing()) {
            return NOTHING_THERE;
        }
        if (row.sort() != sort) {
            return OTHER_SORT;
        }
        int came = 0;
        for (int k = 0; k < n; k++) {
            int at = from + 2 * k;
            if (!row.hasItems(at, 2)) {
                return OUTSIDE;
            }
            if (hen(row.item(at), row.item(at + 1)) >= 0) {
                came++;
            }
        }
        return came;
    }

    public int taken(int hen, int k) {
        if (!isKind(k)) {
            return BAD;
        }
        Hen one = henAt(hen);
        if (one == null) {
            return NOTHING_THERE;
        }
        return isUnder(one.kind, k) ? one.number : OTHER_SORT;
    }

    private static boolean isUnder(int kind, int other) {
        int at = kind;
        for (int steps = 0; steps < KINDS; steps++) {
            if (at == other) {
                return true;
            }
            at = isKind(at) ? ABOVE[at] : NONE;
        }
        return false;
    }

    private Hen henAt(int i) {
        return i >= 0 && i < henCount && i < flock.length ? flock[i] : null;
    }

    private Sheet sheetAt(int i) {
        return i >= 0 && i < sheets.length ? sheets[i] : null;
    }

    private static boolean isFrom0To(int v, int most) {
        return v >= 0 && v <= most;
    }

    private static boolean isArgument(int v) {
        return v >= 0 && v < ARGUMENTS;
    }

    private static boolean isKind(int v) {
        return v >= 0 && v < KINDS;
    }

    private static boolean isSort(int v) {
        return v == BYTES || v == SHORTS || v == INTS;
    }

    private static boolean has(int bits, int point) {
        return isArgument(point) && (bits >> point & 1) == 1;
    }

    private static int partOfLowest(int above, int below, int part) {
        int common = below;
        int rest = above;
        for (int steps = 0; steps < 64 && rest != 0; steps++) {
            int left = common % rest;
            common = rest;
            rest = left;
        }
        int divisor = Math.max(1, common);
        return part == 0 ? above / divisor : below / divisor;
    }

    /** Which ARGUMENT is AGAINST which; sets of ARGUMENTS are bits. */
    private static final class Strife {
        private final int[] struck = new int[ARGUMENTS];
        private final int[] strikers = new int[ARGUMENTS];

        void change(int one, int other, boolean on) {
            if (!isArgument(one) || !isArgument(other)) {
                return;
            }
            if (on) {
                struck[one] |= 1 << other;
                strikers[other] |= 1 << one;
            } else {
                struck[one] &= ~(1 << other);
                strikers[other] &= ~(1 << one);
            }
        }

        void become(Strife other) {
            System.arraycopy(other.struck, 0, struck, 0, ARGUMENTS);
            System.arraycopy(other.strikers, 0, strikers, 0, ARGUMENTS);
        }

        int struckBy(int point) {
            return point >= 0 && point < ARGUMENTS ? struck[point] : 0;
        }

        int strikersOf(int point) {
            return point >= 0 && point < ARGUMENTS ? strikers[point] : 0;
        }

        int struckByAll(int set) {
            int bits = 0;
            for (int point = 0; point < ARGUMENTS; point++) {
                if (has(set, point)) {
                    bits |= struck[point];
                }
            }
            return bits;
        }

        int defendedBy(int set) {
            int beaten = struckByAll(set);
            int bits = 0;
            for (int point = 0; point < ARGUMENTS; point++) {
                if ((strikers[point] & ~beaten) == 0) {
                    bits |= 1 << point;
                }
            }
            return bits;
        }

        int standing() {
            int bits = 0;
            // Each round but the last brings one more at least.
            for (int round = 0; round < ARGUMENTS; round++) {
                bits = defendedBy(bits);
            }
            return bits;
        }

        boolean isFree(int set) {
            return (struckByAll(set) & set) == 0;
        }

        boolean isStable(int set) {
            return isFree(set) && (struckByAll(set) | set) == ALL_ARGUMENTS;
        }

        int freeSets() {
            int many = 0;
            for (int set = 0; set <= ALL_ARGUMENTS; set++) {
                if (isFree(set)) {
                    many++;
                }
            }
            return many;
        }

        int stableSets() {
            int many = 0;
            for (int set = 0; set <= ALL_ARGUMENTS; set++) {
                if (isStable(set)) {
                    many++;
                }
            }
            return many;
        }

        int leastStable() {
            for (int set = 0; set <= ALL_ARGUMENTS; set++) {
                if (isStable(set)) {
                    return set;
                }
            }
            return NONE;
        }

        int twos() {
            int many = 0;
            for (int point = 0; point < ARGUMENTS; point++) {
                many += Integer.bitCount(struck[point]);
            }
            return many;
        }

        int vain() {
            int out = struckByAll(standing());
            int many = 0;
            for (int point = 0; point < ARGUMENTS; point++) {
                int inVain = has(out, point) ? struck[point] : struck[point] & out;
                many += Integer.bitCount(inVain);
            }
            return many;
        }
    }

    /** One HEN, or one who is thought of. */
    private static final class Hen {
        int kind;
        int number;
        int held;
        int eggs;

        void come(int ofKind, int ofNumber) {
            kind = ofKind;
            number = ofNumber;
            held = 0;
            eggs = 0;
        }

        void become(Hen other) {
            kind = other.kind;
            number = other.number;
            held = other.held;
            eggs = other.eggs;
        }
    }

    /** How HENS of each KIND take an ARGUMENT, on a DAY, by a TEXT. */
    private static final class Manner {
        private final Strife strife;
        private final int[] facts = new int[NAMES];
        private final int[] stack = new int[MOST_TAPE];

        Manner(Strife strife) {
            this.strife = strife;
        }

        int objectors(Hen hen, int point) {
            return Integer.bitCount(hen.held & strife.strikersOf(point));
        }

        int laidBy(Hen hen, int point, int day, Text rule) {
            int objecting = objectors(hen, point);
            if (hen.kind == SPECKLED) {
                return objecting == 0 ? 1 : 0;
            }
            int asHen = objecting == 0 ? 0 : bounded(toldBy(rule, LAYS, hen, point, day));
            int asBroody = day % 3 == 0 ? 0 : asHen;
            switch (hen.kind) {
                case PULLET:
                    return bounded(2 * asHen);
                case BROODY:
                    return asBroody;
                case OLD:
                    return bounded(2 * asHen + (has(hen.held, point) ? hen.number : 0));
                case COLLEGE:
                    return Math.min(MOST_LAID_BY_COLLEGE, asBroody);
                default:
                    return asHen;
            }
        }

        boolean isYielding(Hen hen, int point, int day, Text rule) {
            boolean isTold = toldBy(rule, YIELDS, hen, point, day) != 0;
            boolean isAsBroody = isTold && objectors(hen, point) < 2;
            switch (hen.kind) {
                case PULLET:
                    return true;
                case BROODY:
                    return isAsBroody;
                case OLD:
                    return hen.number % 2 == 1;
                case COLLEGE:
                    return isAsBroody || hen.held == 0;
                case SPECKLED:
                    return false;
                default:
                    return isTold;
            }
        }

        boolean isDropping(Hen hen, int point, int day, Text rule) {
            switch (hen.kind) {
                case BROODY:
                    return false;
                case COLLEGE:
                    return point == hen.number;
                case SPECKLED:
                    return toldBy(rule, DROPS, hen, point, day) == 0;
                default:
                    return toldBy(rule, DROPS, hen, point, day) != 0;
            }
        }

        int droppedBy(Hen hen, int day, Text rule) {
            int bits = 0;
            for (int point = 0; point < ARGUMENTS; point++) {
                if (has(hen.held, point) && isDropping(hen, point, day, rule)) {
                    bits |= 1 << point;
                }
            }
            return bits;
        }

        int put(Hen hen, int point, int day, Text rule) {
            int laid = laidBy(hen, point, day, rule);
            boolean yielding = isYielding(hen, point, day, rule);
            hen.eggs = Math.min(MOST_EGGS, hen.eggs + laid);
            if (yielding) {
                hen.held = (hen.held | 1 << point) & ~strife.struckBy(point);
            }
            return laid;
        }

        void sleep(Hen hen, int day, Text rule) {
            hen.held &= ~droppedBy(hen, day, rule);
        }

        private static int bounded(int laid) {
            return Math.max(0, Math.min(MOST_LAID, laid));
        }

        private int toldBy(Text rule, int part, Hen hen, int point, int day) {
            facts[POINT] = point;
            facts[AGAINST] = objectors(hen, point);
            facts[HOLDS] = Integer.bitCount(hen.held);
            facts[NUMBER] = hen.number;
            facts[DAY] = day;
            facts[EGGS] = hen.eggs;
            return rule.worth(part, facts, stack);
        }
    }

    /**
     * All MORNINGS of up to three ARGUMENTS, as a tree: morning 0 is that of none, and morning m
     * with one ARGUMENT more is morning 10 m + 1 + that ARGUMENT; so they stand as THREE asks,
     * the shorter ahead of the longer, and of like length by the first one, then the next.
     */
    private static final class Mornings {
        private final Manner manner;
        private final Hen thought = new Hen();
        private final int[] held = new int[MORNINGS];
        private final int[] eggs = new int[MORNINGS];
        private final int[] laid = new int[MORNINGS];

        Mornings(Manner manner) {
            this.manner = manner;
        }

        /** The morning of none. */
        void begin(Hen hen) {
            thought.become(hen);
            held[0] = hen.held;
            eggs[0] = hen.eggs;
            laid[0] = 0;
        }

        /** Those of n ARGUMENTS; all shorter ones were tried ahead. */
        void tryAll(int n, int day, Text rule) {
            int end = firstOf(n + 1);
            for (int m = Math.max(1, firstOf(n)); m < end && m < MORNINGS; m++) {
                int ahead = (m - 1) / ARGUMENTS;
                thought.held = held[ahead];
                thought.eggs = eggs[ahead];
                laid[m] = laid[ahead] + manner.put(thought, (m - 1) % ARGUMENTS, day, rule);
                held[m] = thought.held;
                eggs[m] = thought.eggs;
            }
        }

        int bestOf(int n) {
            int end = firstOf(n + 1);
            int best = firstOf(n);
            for (int m = best; m < end && m < MORNINGS; m++) {
                if (laid[m] > laid[best]) {
                    best = m;
                }
            }
            return best;
        }

        int laidOn(int m) {
            return m >= 0 && m < MORNINGS ? laid[m] : 0;
        }

        boolean isHeldBehind(int n, int point) {
            int end = firstOf(n + 1);
            for (int m = firstOf(n); m < end && m < MORNINGS; m++) {
                if (has(held[m], point)) {
                    return true;
                }
            }
            return false;
        }

        int numberOf(int m) {
            int number = 0;
            int times = 1;
            int at = m;
            for (int steps = 0; steps < MOST_TRIED && at > 0; steps++) {
                number += times * ((at - 1) % ARGUMENTS + 1);
                times *= ARGUMENTS + 1;
                at = (at - 1) / ARGUMENTS;
            }
            return number;
        }

        private static int firstOf(int n) {
            int first = 0;
            for (int k = 0; k < n && k <= MOST_TRIED; k++) {
                first = ARGUMENTS * first + 1;
            }
            return first;
        }
    }

    /** A TEXT, kept as steps that work on a stack: what they are done with stands ahead of them. */
    private static final class Text {
        private final int[] steps = new int[MOST_TAPE];
        private final int[] ends = new int[PARTS];
        private int size;

        void clear() {
            size = 0;
        }

        void become(Text other) {
            System.arraycopy(other.steps, 0, steps, 0, MOST_TAPE);
            System.arraycopy(other.ends, 0, ends, 0, PARTS);
            size = other.size;
        }

        void add(int step) {
            if (size < steps.length) {
                steps[size] = step;
                size++;
            }
        }

        void endPart(int part) {
            if (part >= 0 && part < PARTS) {
                ends[part] = size;
            }
        }

        int worth(int part, int[] facts, int[] stack) {
            if (part < 0 || part >= PARTS) {
                return 0;
            }
            int depth = 0;
            int begin = part == 0 ? 0 : ends[part - 1];
            for (int at = begin; at < ends[part] && at < steps.length; at++) {
                int step = steps[at];
                if (isValue(step)) {
                    if (depth < stack.length) {
                        stack[depth] = valueOf(step, facts);
                        depth++;
                    }
                } else if (step == NEGATE || step == NEGATE_TRUTH) {
                    if (depth >= 1) {
                        stack[depth - 1] = ofOne(step, stack[depth - 1]);
                    }
                } else if (depth >= 2) {
                    depth--;
                    stack[depth - 1] = ofTwo(step, stack[depth - 1], stack[depth]);
                }
            }
            return depth >= 1 ? stack[depth - 1] : 0;
        }

        private static boolean isValue(int step) {
            return step < NAMES || step >= FIRST_NUMBER;
        }

        private static int valueOf(int step, int[] facts) {
            if (step >= FIRST_NUMBER) {
                return step - FIRST_NUMBER;
            }
            return step >= 0 && step < facts.length ? facts[step] : 0;
        }

        private static int ofOne(int step, int value) {
            if (step == NEGATE) {
                return -value;
            }
            return value == 0 ? 1 : 0;
        }

        private static int ofTwo(int step, int left, int right) {
            switch (step) {
                case TIMES:
                    return left * right;
                case PLUS:
                    return left + right;
                case MINUS:
                    return left - right;
                case LESS:
                    return left < right ? 1 : 0;
                case SAME:
                    return left == right ? 1 : 0;
                case BOTH:
                    return left != 0 && right != 0 ? 1 : 0;
                default:
                    return left != 0 || right != 0 ? 1 : 0;
            }
        }
    }

    /** THE TAPE. */
    private static final class Tape {
        private final int[] bytes = new int[MOST_TAPE];
        private int size;

        boolean add(int letter) {
            if (size >= bytes.length) {
                return false;
            }
            bytes[size] = letter;
            size++;
            return true;
        }

        int size() {
            return size;
        }

        void empty() {
            size = 0;
        }

        int byteAt(int i) {
            return i >= 0 && i < size && i < bytes.length ? bytes[i] : NONE;
        }

        boolean spells(String word, int from, int end) {
            if (from < 0 || end > size || end - from != word.length()) {
                return false;
            }
            for (int i = 0; i < word.length(); i++) {
                if (bytes[from + i] != word.charAt(i)) {
                    return false;
                }
            }
            return true;
        }
    }

    /** The TOKENS of THE TAPE, and which of them is the next to be read. */
    private static final class Tokens {
        private static final int MOST = MOST_TAPE + 1;
        private final int[] sorts = new int[MOST];
        private final int[] places = new int[MOST];
        private final int[] values = new int[MOST];
        private int size;
        private int next;

        /** A TOKEN that can stand nowhere is kept as BROKEN: it is a FAULT only where the reading gets to it. */
        void split(Tape tape) {
            size = 0;
            next = 0;
            int at = 0;
            for (int taken = 0; taken < MOST && at < tape.size(); taken++) {
                at = take(tape, at);
            }
            add(END, tape.size(), 0);
        }

        int sort() {
            return next < size ? sorts[next] : END;
        }

        int place() {
            return next < size ? places[next] : 0;
        }

        /** A NUMBER's worth, or which NAME. */
        int value() {
            return next < size ? values[next] : 0;
        }

        void advance() {
            if (next < size - 1) {
                next++;
            }
        }

        /** The place behind what is taken. */
        private int take(Tape tape, int at) {
            int first = tape.byteAt(at);
            if (first == ' ' || first == '\n') {
                return at + 1;
            }
            if (isLetter(first)) {
                return takeWord(tape, at);
            }
            if (isDigit(first)) {
                return takeNumber(tape, at);
            }
            add(SIGNS.indexOf((char) first) >= 0 ? first : BROKEN, at, 0);
            return at + 1;
        }

        private int takeWord(Tape tape, int from) {
            int end = from;
            while (end < tape.size() && isLetter(tape.byteAt(end))) {
                end++;
            }
            int word = NONE;
            for (int k = 0; k < WORDS; k++) {
                if (tape.spells(spelling(k), from, end)) {
                    word = k;
                }
            }
            if (word == NONE) {
                add(BROKEN, from, 0);
            } else {
                add(word < NAMES ? A_NAME : word, from, word);
            }
            return end;
        }

        private int takeNumber(Tape tape, int from) {
            int end = from;
            int value = 0;
            while (end < tape.size() && isDigit(tape.byteAt(end))) {
                value = 10 * value + tape.byteAt(end) - '0';
                end++;
            }
            add(end - from <= MOST_DIGITS ? A_NUMBER : BROKEN, from, value);
            return end;
        }

        private void add(int sort, int place, int value) {
            if (size < MOST) {
                sorts[size] = sort;
                places[size] = place;
                values[size] = value;
                size++;
            }
        }

        private static boolean isLetter(int letter) {
            return letter >= 'a' && letter <= 'z';
        }

        private static boolean isDigit(int letter) {
            return letter >= '0' && letter <= '9';
        }

        private static String spelling(int word) {
            switch (word) {
                case POINT:
                    return "point";
                case AGAINST:
                    return "against";
                case HOLDS:
                    return "holds";
                case NUMBER:
                    return "number";
                case DAY:
                    return "day";
                case EGGS:
                    return "eggs";
                case KEY_LAYS:
                    return "lays";
                case KEY_YIELDS:
                    return "yields";
                case KEY_DROPS:
                    return "drops";
                case KEY_OR:
                    return "or";
                case KEY_AND:
                    return "and";
                default:
                    return "not";
            }
        }
    }

    /** Reads a TEXT from THE TAPE; open is how many of ( , not and - are open. */
    private static final class Reader {
        /** For loops that end with THE TAPE: each round takes a TOKEN. */
        private static final int ENOUGH = MOST_TAPE;
        private final Tokens tokens = new Tokens();
        private final Text draft = new Text();
        private int fault = NONE;

        /** The place of the FAULT; NONE: the draft is the TEXT. */
        int read(Tape tape) {
            tokens.split(tape);
            draft.clear();
            fault = NONE;
            for (int part = 0; part < PARTS; part++) {
                expect(KEY_LAYS + part);
                readEither(0);
                expect(';');
                draft.endPart(part);
            }
            if (!isNext(END)) {
                fail();
            }
            return fault;
        }

        Text draft() {
            return draft;
        }

        /** Behind a FAULT nothing is next: no more is taken, and the first FAULT stays. */
        private boolean isNext(int sort) {
            return fault == NONE && tokens.sort() == sort;
        }

        private void fail() {
            if (fault == NONE) {
                fault = tokens.place();
            }
        }

        private void expect(int sort) {
            if (isNext(sort)) {
                tokens.advance();
            } else {
                fail();
            }
        }

        /** One that would be too many stays where it is, and is the FAULT, for nothing else takes it. */
        private boolean isOpened(int sort, int open) {
            if (!isNext(sort) || open >= MOST_OPEN) {
                return false;
            }
            tokens.advance();
            return true;
        }

        private void readEither(int open) {
            readBoth(open);
            for (int k = 0; k < ENOUGH && isNext(KEY_OR); k++) {
                tokens.advance();
                readBoth(open);
                draft.add(EITHER);
            }
        }

        private void readBoth(int open) {
            readTruth(open);
            for (int k = 0; k < ENOUGH && isNext(KEY_AND); k++) {
                tokens.advance();
                readTruth(open);
                draft.add(BOTH);
            }
        }

        private void readTruth(int open) {
            int nots = 0;
            while (nots < MOST_OPEN && isOpened(KEY_NOT, open + nots)) {
                nots++;
            }
            readCompared(open + nots);
            for (int k = 0; k < nots; k++) {
                draft.add(NEGATE_TRUTH);
            }
        }

        private void readCompared(int open) {
            readSum(open);
            if (isNext('<') || isNext('=')) {
                int step = isNext('<') ? LESS : SAME;
                tokens.advance();
                readSum(open);
                draft.add(step);
            }
        }

        private void readSum(int open) {
            readTerm(open);
            for (int k = 0; k < ENOUGH && (isNext('+') || isNext('-')); k++) {
                int step = isNext('+') ? PLUS : MINUS;
                tokens.advance();
                readTerm(open);
                draft.add(step);
            }
        }

        private void readTerm(int open) {
            readOne(open);
            for (int k = 0; k < ENOUGH && isNext('*'); k++) {
                tokens.advance();
                readOne(open);
                draft.add(TIMES);
            }
        }

        private void readOne(int open) {
            int minuses = 0;
            while (minuses < MOST_OPEN && isOpened('-', open + minuses)) {
                minuses++;
            }
            readSimple(open + minuses);
            for (int k = 0; k < minuses; k++) {
                draft.add(NEGATE);
            }
        }

        private void readSimple(int open) {
            if (isNext(A_NUMBER)) {
                draft.add(FIRST_NUMBER + tokens.value());
                tokens.advance();
            } else if (isNext(A_NAME)) {
                draft.add(tokens.value());
                tokens.advance();
            } else if (isOpened('(', open)) {
                readEither(open + 1);
                expect(')');
            } else {
                fail();
            }
        }
    }

    /** A row of numbers, or none; the numbers are such as its sort has. */
    private static final class Sheet {
        private final int[] items = new int[MOST_ITEMS];
        private int sort = MISSING;
        private int size;

        void become(int newSort, int newSize) {
            sort = newSort;
            size = Math.max(0, Math.min(MOST_ITEMS, newSize));
            for (int i = 0; i < items.length; i++) {
                items[i] = 0;
            }
        }

        boolean isMissing() {
            return sort == MISSING;
        }

        int sort() {
            return sort;
        }

        int size() {
            return size;
        }

        boolean hasItems(int from, int n) {
            return from >= 0 && n >= 0 && from <= size - n;
        }

        int item(int i) {
            return hasItems(i, 1) ? items[i] : 0;
        }

        void write(int i, int v) {
            if (!hasItems(i, 1)) {
                return;
            }
            if (sort == BYTES) {
                items[i] = (byte) v;
            } else if (sort == SHORTS) {
                items[i] = (short) v;
            } else {
                items[i] = v;
            }
        }

        void copyTo(int from, Sheet other, int to, int n) {
            if (hasItems(from, n) && other.hasItems(to, n)) {
                System.arraycopy(items, from, other.items, to, n);
            }
        }
    }

    /** THE IMAGE. */
    private static final class Image {
        final Strife strife = new Strife();
        final Hen[] flock = new Hen[MOST_HENS];
        boolean isThere;
        int day;
        int ruleNumber;
        int henCount;

        Image() {
            for (int i = 0; i < flock.length; i++) {
                flock[i] = new Hen();
            }
        }
    }
}

/** Sleepless of kinds, cups, and texts that rule what goes from whom into which in a night. */
public final class OtherHalfOfNight {
    public static final int NONE = -1, BAD = -2, STATE = -3, FULL = -4;
    public static final long NO = -4611686018427387904L;

    private static final int MISSING = -11, OUTSIDE = -12, UNLIKE = -13, BELOW = -14;
    private static final int NOBODY_EASED = -1000, FAULT_BASE = -100;

    private static final int ONES_MOST = 5, CUPS = 6, TEXTS_MOST = 6, TAPE_MOST = 160, SHEETS = 4;
    private static final int NIGHT_MOST = 999, HOUR_MOST = 23, DIGIT_MOST = 9, MUCH_MOST = 99;
    private static final int RUN_MOST = 40, SLEEPS_MOST = 60, TOLD_MOST = 20, BYTE_MOST = 255;
    private static final int SEEDS_MOST = 20, SEED_NIGHTS = 6, CHANCE_MOST = 9999;

    private static final int NIGHT = 0, HOUR = 1, NUMBER = 2, TROUBLE = 3, NEWS = 4, WANT = 5, TASTE = 6;
    private static final int KIND = 7, YIELDS = 8, SUITS = 9, HOLD = 10, RULE = 11;

    private static final int SLEEPER = 0, CLERK = 1, LADY = 2, DEBTOR = 3, GIRL = 4, SNORER = 5;

    private final House now = new House();
    private final House thought = new House();
    private final House kept = new House();
    private boolean hasKept;
    private final Reader reader = new Reader();
    private final Law law = new Law();
    private final Pouring pouring = new Pouring();
    private final Demand demand = new Demand();
    private final Sheet[] sheets = new Sheet[SHEETS];

    public OtherHalfOfNight() {
        for (int i = 0; i < SHEETS; i++) {
            sheets[i] = new Sheet();
        }
    }

    // ---- sleepless, cups

    public int set(int what, int of, int v) {
        if (what > TASTE || !now.hasPlace(what, of) || v < 0 || v > mostOf(what)) {
            return BAD;
        }
        int was = now.read(what, of);
        now.write(what, of, v);
        return was;
    }

    public int wakes(int kind, int number, int trouble) {
        return now.admit(kind, number, trouble);
    }

    public int told(int of, int what) {
        if (what == YIELDS) {
            return now.lodges(of) ? law.yieldOf(now, of) : BAD;
        }
        if (what == SUITS) {
            return now.lodges(of) ? law.suitBits(now, of) : BAD;
        }
        return what <= HOLD && now.hasPlace(what, of) ? now.read(what, of) : BAD;
    }

    public int eased(int one) {
        return now.lodges(one) ? law.easeOf(now, one) : NOBODY_EASED;
    }

    // ---- texts

    public int feed(int letter) {
        if (letter < 0 || letter > BYTE_MOST) {
            return BAD;
        }
        return reader.take(letter) ? reader.size : FULL;
    }

    public int text() {
        if (law.isFull()) {
            return FULL;
        }
        int fault = reader.read(law.nextText());
        return fault == NONE ? law.keepNext() : FAULT_BASE - fault;
    }

    public int force(int text) {
        if (!law.hasText(text)) {
            return BAD;
        }
        int was = now.rule;
        now.rule = text;
        return was;
    }

    // ---- nights

    public int night() {
        return now.night >= NIGHT_MOST ? STATE : pouring.pass(law, now);
    }

    public int news(int one) {
        if (!now.lodges(one)) {
            return BAD;
        }
        int was = now.trouble[one];
        now.bringNews(one);
        return was;
    }

    public int run(int one, int cup, int n, int what) {
        if (!now.lodges(one) || !isCup(cup) || n < 0 || n > RUN_MOST || what < 0 || what > 2) {
            return BAD;
        }
        thought.takeFrom(now);
        int poured = 0;
        for (int i = 0; i < n; i++) {
            poured += pouring.pass(law, thought);
        }
        if (what == 0) {
            return thought.trouble[one];
        }
        return what == 1 ? poured : thought.hold[cup];
    }

    public int sleeps(int one) {
        if (!now.lodges(one)) {
            return BAD;
        }
        thought.takeFrom(now);
        for (int nights = 0; nights <= SLEEPS_MOST; nights++) {
            if (thought.trouble[one] == 0) {
                return nights;
            }
            law.easeOne(thought, one);
            thought.night++;
        }
        return NONE;
    }

    // ---- what could be poured

    public int pour(int what) {
        thought.takeFrom(now);
        demand.measure(law, now);
        switch (what) {
            case 0: return demand.most();
            case 1: return demand.leastCut();
            case 2: return demand.most() - pouring.pourAll(law, thought);
            case 3: return pouring.pourAll(law, thought);
            case 4:
                pouring.pourAll(law, thought);
                return thought.fullCups();
            case 5: return demand.starved();
            default: return BAD;
        }
    }

    public int best(int what) {
        demand.measure(law, now);
        switch (what) {
            case 0: return demand.leastLost();
            case 1: return demand.mostWithoutOne(demand.leastLost());
            case 2: return demand.emptiest();
            case 3: return demand.mostWithWant(demand.emptiest(), 0);
            case 4: return demand.dearest();
            case 5: return demand.mostWithOneMore(demand.dearest());
            default: return BAD;
        }
    }

    public long blend(int one, int cup, int part) {
        if (!now.lodges(one) || !isCup(cup) || part < 0 || part > 1) {
            return NO;
        }
        thought.takeFrom(now);
        pouring.pourAll(law, thought);
        return lowest(pouring.into[one][cup], thought.hold[cup], part);
    }

    // ---- nights that were told

    public int tells(int sheet, int one, int what) {
        if (!isSheet(sheet) || !now.lodges(one) || what < 0 || what > 7) {
            return BAD;
        }
        Sheet told = sheets[sheet];
        if (told.isMissing()) {
            return MISSING;
        }
        if (told.size > TOLD_MOST) {
            return BAD;
        }
        switch (what) {
            case 0:
                thought.takeFrom(now);
                return firstOtherwise(told, one);
            case 1: return fitting(told, one, KIND, SNORER);
            case 2: return fitting(told, one, NUMBER, DIGIT_MOST);
            case 3: return troublesFitting(told, one);
            case 4: return leastTroubleFitting(told, one);
            case 5: return fitting(told, one, HOUR, HOUR_MOST);
            case 6: return fitting(told, one, RULE, law.size() - 1);
            default: return onesFitting(told);
        }
    }

    public int film(int sheet, int one, int n) {
        if (!isSheet(sheet) || !now.lodges(one) || n < 0 || n > TOLD_MOST) {
            return BAD;
        }
        Sheet row = sheets[sheet];
        row.become(Sheet.BYTES, n);
        thought.takeFrom(now);
        int all = 0;
        for (int i = 0; i < n; i++) {
            int yielded = law.yieldOf(thought, one);
            row.put(i, yielded);
            all += yielded;
            law.easeOne(thought, one);
            thought.night++;
        }
        return all;
    }

    public int drawn(int seed, int n) {
        return n < 0 || n > RUN_MOST ? BAD : pouredBySeed(seed, n);
    }

    public long chance(int seed, int m, int k, int part) {
        if (m < 1 || m > SEEDS_MOST || k < 0 || k > CHANCE_MOST || part < 0 || part > 1) {
            return NO;
        }
        int enough = 0;
        for (int i = 0; i < m; i++) {
            if (pouredBySeed(seed + i, SEED_NIGHTS) >= k) {
                enough++;
            }
        }
        return lowest(enough, m, part);
    }

    public int image() {
        kept.takeFrom(now);
        hasKept = true;
        return kept.ones;
    }

    public int back() {
        if (!hasKept) {
            return STATE;
        }
        now.takeFrom(kept);
        return now.ones;
    }

    public int count(int what) {
        switch (what) {
            case 0: return now.ones;
            case 1: return now.heldInAll();
            case 2: return now.night;
            case 3: return law.size();
            case 4: return reader.size;
            case 5: return now.rule;
            default: return BAD;
        }
    }

    // ---- the host

    public int sheet(int sheet, int sort, int n) {
        if (!isSheet(sheet) || sort < Sheet.GONE || sort > Sheet.INTS) {
            return BAD;
        }
        if (sort == Sheet.GONE) {
            sheets[sheet].become(Sheet.GONE, 0);
            return 1;
        }
        if (n > Sheet.ITEMS_MOST) {
            return BAD;
        }
        if (n < 0) {
            return BELOW;
        }
        sheets[sheet].become(sort, n);
        return 1;
    }

    public int cell(int sheet, int i, int v) {
        if (!isSheet(sheet)) {
            return BAD;
        }
        if (sheets[sheet].isMissing()) {
            return MISSING;
        }
        return sheets[sheet].put(i, v) ? 1 : OUTSIDE;
    }

    public int copy(int sheet, int i, int other, int j, int n) {
        if (!isSheet(sheet) || !isSheet(other)) {
            return BAD;
        }
        Sheet from = sheets[sheet];
        Sheet to = sheets[other];
        if (from.isMissing() || to.isMissing()) {
            return MISSING;
        }
        if (from.sort != to.sort) {
            return UNLIKE;
        }
        if (!from.hasRange(i, n) || !to.hasRange(j, n)) {
            return OUTSIDE;
        }
        System.arraycopy(from.items, i, to.items, j, n);
        return n;
    }

    public int house(int sheet, int sort, int from, int n) {
        if (!isSheet(sheet) || sort < Sheet.BYTES || sort > Sheet.INTS || n < 0 || n > ONES_MOST) {
            return BAD;
        }
        Sheet row = sheets[sheet];
        if (row.isMissing()) {
            return MISSING;
        }
        if (row.sort != sort) {
            return UNLIKE;
        }
        int came = 0;
        for (int i = 0; i < n; i++) {
            // asked of the whole stretch from the first one on, as from + 3 * i could wrap
            if (!row.hasRange(from, 3 * (i + 1))) {
                return OUTSIDE;
            }
            int at = from + 3 * i;
            if (now.admit(row.items[at], row.items[at + 1], row.items[at + 2]) >= 0) {
                came++;
            }
        }
        return came;
    }

    public int taken(int one, int k) {
        if (k < SLEEPER || k > SNORER) {
            return BAD;
        }
        if (!now.lodges(one)) {
            return MISSING;
        }
        return isUnder(now.kind[one], k) ? now.number[one] : UNLIKE;
    }

    // ---- what the calls share

    private static boolean isCup(int cup) {
        return cup >= 0 && cup < CUPS;
    }

    private static boolean isSheet(int sheet) {
        return sheet >= 0 && sheet < SHEETS;
    }

    private static int bounded(int v) {
        return Math.max(0, Math.min(MUCH_MOST, v));
    }

    private static int mostOf(int what) {
        switch (what) {
            case NIGHT: return NIGHT_MOST;
            case HOUR: return HOUR_MOST;
            case NUMBER:
            case TASTE: return DIGIT_MOST;
            default: return MUCH_MOST;
        }
    }

    private static boolean isUnder(int kind, int above) {
        switch (above) {
            case SLEEPER: return true;
            case CLERK: return kind == CLERK || kind == DEBTOR;
            case LADY: return kind == LADY || kind == GIRL;
            default: return kind == above;
        }
    }

    /** Part 0 above, part 1 below the line, of a fraction in lowest terms; NO over 0. */
    private static long lowest(int above, int below, int part) {
        int a = below;
        int b = above;
        // by Fibonacci no two ints take 50 turns
        for (int turn = 0; turn < 50 && b != 0; turn++) {
            int rest = a % b;
            a = b;
            b = rest;
        }
        if (below == 0 || a == 0) {
            return NO;
        }
        return part == 0 ? above / a : below / a;
    }

    private int pouredBySeed(int seed, int n) {
        thought.takeFrom(now);
        int poured = 0;
        int z = seed;
        for (int i = 0; i < n; i++) {
            z = z * 1103515245 + 12345;
            int one = (z >>> 9) % 8;
            if (thought.lodges(one)) {
                thought.bringNews(one);
            }
            poured += pouring.pass(law, thought);
        }
        return poured;
    }

    /** The first item that isn't as one yields in the nights that are thought on. */
    private int firstOtherwise(Sheet told, int one) {
        for (int i = 0; i < told.size; i++) {
            if (told.items[i] != law.yieldOf(thought, one)) {
                return i;
            }
            law.easeOne(thought, one);
            thought.night++;
        }
        return NONE;
    }

    private boolean fits(Sheet told, int one, int what, int v) {
        thought.takeFrom(now);
        thought.write(what, one, v);
        return firstOtherwise(told, one) == NONE;
    }

    private int fitting(Sheet told, int one, int what, int most) {
        int bits = 0;
        for (int v = 0; v <= most; v++) {
            if (fits(told, one, what, v)) {
                bits |= 1 << v;
            }
        }
        return bits;
    }

    private int troublesFitting(Sheet told, int one) {
        int many = 0;
        for (int v = 0; v <= MUCH_MOST; v++) {
            if (fits(told, one, TROUBLE, v)) {
                many++;
            }
        }
        return many;
    }

    private int leastTroubleFitting(Sheet told, int one) {
        for (int v = 0; v <= MUCH_MOST; v++) {
            if (fits(told, one, TROUBLE, v)) {
                return v;
            }
        }
        return NONE;
    }

    private int onesFitting(Sheet told) {
        int bits = 0;
        for (int one = 0; one < now.ones; one++) {
            thought.takeFrom(now);
            if (firstOtherwise(told, one) == NONE) {
                bits |= 1 << one;
            }
        }
        return bits;
    }

    // ---- what stands inside

    /** All that nights change and an image keeps; one stands, one is for thought, one is the image. */
    private static final class House {
        int night;
        int hour;
        int rule;
        int ones;
        final int[] kind = new int[ONES_MOST];
        final int[] number = new int[ONES_MOST];
        final int[] trouble = new int[ONES_MOST];
        final int[] news = new int[ONES_MOST];
        final int[] want = new int[CUPS];
        final int[] taste = new int[CUPS];
        final int[] hold = new int[CUPS];

        House() {
            for (int cup = 0; cup < CUPS; cup++) {
                want[cup] = 10;
                taste[cup] = cup;
            }
        }

        void takeFrom(House other) {
            night = other.night;
            hour = other.hour;
            rule = other.rule;
            ones = other.ones;
            System.arraycopy(other.kind, 0, kind, 0, ONES_MOST);
            System.arraycopy(other.number, 0, number, 0, ONES_MOST);
            System.arraycopy(other.trouble, 0, trouble, 0, ONES_MOST);
            System.arraycopy(other.news, 0, news, 0, ONES_MOST);
            System.arraycopy(other.want, 0, want, 0, CUPS);
            System.arraycopy(other.taste, 0, taste, 0, CUPS);
            System.arraycopy(other.hold, 0, hold, 0, CUPS);
        }

        boolean lodges(int one) {
            return one >= 0 && one < ones;
        }

        /** Whether read() and write() find something there. */
        boolean hasPlace(int what, int of) {
            switch (what) {
                case NIGHT:
                case HOUR:
                case RULE: return true;
                case NUMBER:
                case TROUBLE:
                case NEWS:
                case KIND: return lodges(of);
                case WANT:
                case TASTE:
                case HOLD: return isCup(of);
                default: return false;
            }
        }

        int read(int what, int of) {
            if (!hasPlace(what, of)) {
                return BAD;
            }
            switch (what) {
                case NIGHT: return night;
                case HOUR: return hour;
                case NUMBER: return number[of];
                case TROUBLE: return trouble[of];
                case NEWS: return news[of];
                case WANT: return want[of];
                case TASTE: return taste[of];
                case KIND: return kind[of];
                case HOLD: return hold[of];
                default: return rule;
            }
        }

        void write(int what, int of, int v) {
            if (!hasPlace(what, of)) {
                return;
            }
            switch (what) {
                case NIGHT: night = v; break;
                case HOUR: hour = v; break;
                case NUMBER: number[of] = v; break;
                case TROUBLE: trouble[of] = v; break;
                case NEWS: news[of] = v; break;
                case WANT: want[of] = v; break;
                case TASTE: taste[of] = v; break;
                case KIND: kind[of] = v; break;
                case HOLD: hold[of] = v; break;
                default: rule = v; break;
            }
        }

        int admit(int newKind, int newNumber, int newTrouble) {
            if (newKind < SLEEPER || newKind > SNORER || newNumber < 0 || newNumber > DIGIT_MOST
                    || newTrouble < 0 || newTrouble > MUCH_MOST) {
                return BAD;
            }
            if (ones >= ONES_MOST) {
                return FULL;
            }
            kind[ones] = newKind;
            number[ones] = newNumber;
            trouble[ones] = newTrouble;
            news[ones] = 0;
            ones++;
            return ones - 1;
        }

        void bringNews(int one) {
            if (!lodges(one)) {
                return;
            }
            news[one] = bounded(news[one] + 1);
            trouble[one] = 0;
        }

        int heldInAll() {
            int all = 0;
            for (int cup = 0; cup < CUPS; cup++) {
                all += hold[cup];
            }
            return all;
        }

        int fullCups() {
            int bits = 0;
            for (int cup = 0; cup < CUPS; cup++) {
                if (hold[cup] == want[cup]) {
                    bits |= 1 << cup;
                }
            }
            return bits;
        }
    }

    /** The tokens of a text; what isn't listed here is a sign, by its byte. */
    private static final class Token {
        static final int KEY_YIELDS = 256, KEY_SUITS = 257, KEY_EASES = 258;
        static final int OR = 259, AND = 260, NOT = 261;
        static final int NAME_TROUBLE = 262, NAME_NUMBER = 263, NAME_NIGHT = 264;
        static final int NAME_NEWS = 265, NAME_TASTE = 266, NAME_HOUR = 267;
        static final int LITERAL = 268, END = 269, WRONG = 270, NEGATE = 271;
        static final String SIGNS = "();+-*<=";

        static String spelling(int word) {
            switch (word) {
                case KEY_YIELDS: return "yields";
                case KEY_SUITS: return "suits";
                case KEY_EASES: return "eases";
                case OR: return "or";
                case AND: return "and";
                case NOT: return "not";
                case NAME_TROUBLE: return "trouble";
                case NAME_NUMBER: return "number";
                case NAME_NIGHT: return "night";
                case NAME_NEWS: return "news";
                case NAME_TASTE: return "taste";
                case NAME_HOUR: return "hour";
                default: return "";
            }
        }

        static boolean isName(int token) {
            return token >= NAME_TROUBLE && token <= NAME_HOUR;
        }
    }

    /**
     * A text that was read: its three parts, each as steps on a stack of ints.
     * A step is a number, 0 or more, or below 0 the token that does it.
     */
    private static final class Text {
        static final int PARTS = 3, PART_YIELDS = 0, PART_SUITS = 1, PART_EASES = 2;
        // six levels of brackets, each with five left sides waiting, and the one in hand: 31
        static final int STACK_MOST = 32;

        // no step without a byte of its own
        private final int[] steps = new int[TAPE_MOST];
        private final int[] ends = new int[PARTS];
        private int size;

        void clear() {
            size = 0;
        }

        void add(int step) {
            if (size < TAPE_MOST) {
                steps[size] = step;
                size++;
            }
        }

        void endPart(int part) {
            if (part >= 0 && part < PARTS) {
                ends[part] = size;
            }
        }

        void beFirst() {
            clear();
            add(1);
            add(-Token.NAME_TROUBLE);
            add(-'+');
            endPart(PART_YIELDS);
            add(1);
            endPart(PART_SUITS);
            add(0);
            endPart(PART_EASES);
        }

        int value(int part, House house, int one, int taste, int[] stack) {
            if (part < 0 || part >= PARTS || stack.length < STACK_MOST || !house.lodges(one)) {
                return 0;
            }
            int top = 0;
            for (int at = part == 0 ? 0 : ends[part - 1]; at < ends[part]; at++) {
                int step = steps[at];
                if (step >= 0 || Token.isName(-step)) {
                    if (top < STACK_MOST) {
                        stack[top] = step >= 0 ? step : named(-step, house, one, taste);
                        top++;
                    }
                } else if (step == -Token.NOT || step == -Token.NEGATE) {
                    if (top >= 1) {
                        stack[top - 1] = ofOne(step, stack[top - 1]);
                    }
                } else if (top >= 2) {
                    top--;
                    stack[top - 1] = ofTwo(-step, stack[top - 1], stack[top]);
                }
            }
            return top == 1 ? stack[0] : 0;
        }

        private static int named(int name, House house, int one, int taste) {
            switch (name) {
                case Token.NAME_TROUBLE: return house.trouble[one];
                case Token.NAME_NUMBER: return house.number[one];
                case Token.NAME_NIGHT: return house.night;
                case Token.NAME_NEWS: return house.news[one];
                case Token.NAME_TASTE: return taste;
                default: return house.hour;
            }
        }

        private static int ofOne(int step, int a) {
            return step == -Token.NEGATE ? -a : a == 0 ? 1 : 0;
        }

        private static int ofTwo(int token, int a, int b) {
            switch (token) {
                case '+': return a + b;
                case '-': return a - b;
                case '*': return a * b;
                case '<': return a < b ? 1 : 0;
                case '=': return a == b ? 1 : 0;
                case Token.AND: return a != 0 && b != 0 ? 1 : 0;
                default: return a != 0 || b != 0 ? 1 : 0;
            }
        }
    }

    /** The tape, and how it is read into a text: one token ahead; where that stops is the fault. */
    private static final class Reader {
        static final int OPEN_MOST = 5, DIGITS_MOST = 4;

        final int[] tape = new int[TAPE_MOST];
        int size;
        private Text text = new Text();
        private int at;
        private int start;
        private int token;
        private int literal;

        boolean take(int letter) {
            if (size >= TAPE_MOST) {
                return false;
            }
            tape[size] = letter;
            size++;
            return true;
        }

        /** NONE, or the place of the fault; the tape is empty then. */
        int read(Text into) {
            text = into;
            text.clear();
            at = 0;
            step();
            boolean whole = readPart(Token.KEY_YIELDS, Text.PART_YIELDS)
                    && readPart(Token.KEY_SUITS, Text.PART_SUITS)
                    && readPart(Token.KEY_EASES, Text.PART_EASES)
                    && token == Token.END;
            size = 0;
            return whole ? NONE : start;
        }

        private boolean readPart(int key, int part) {
            if (token != key) {
                return false;
            }
            step();
            if (!readAny(0) || token != ';') {
                return false;
            }
            step();
            text.endPart(part);
            return true;
        }

        private boolean readAny(int open) {
            if (!readAnd(open)) {
                return false;
            }
            for (int turn = 0; turn < TAPE_MOST && token == Token.OR; turn++) {
                step();
                if (!readAnd(open)) {
                    return false;
                }
                text.add(-Token.OR);
            }
            return true;
        }

        private boolean readAnd(int open) {
            if (!readNot(open)) {
                return false;
            }
            for (int turn = 0; turn < TAPE_MOST && token == Token.AND; turn++) {
                step();
                if (!readNot(open)) {
                    return false;
                }
                text.add(-Token.AND);
            }
            return true;
        }

        private boolean readNot(int open) {
            if (token != Token.NOT) {
                return readComparison(open);
            }
            if (open >= OPEN_MOST) {
                return false;
            }
            step();
            if (!readNot(open + 1)) {
                return false;
            }
            text.add(-Token.NOT);
            return true;
        }

        private boolean readComparison(int open) {
            if (!readSum(open)) {
                return false;
            }
            if (token != '<' && token != '=') {
                return true;
            }
            int sign = token;
            step();
            if (!readSum(open)) {
                return false;
            }
            text.add(-sign);
            return true;
        }

        private boolean readSum(int open) {
            if (!readTerm(open)) {
                return false;
            }
            for (int turn = 0; turn < TAPE_MOST && (token == '+' || token == '-'); turn++) {
                int sign = token;
                step();
                if (!readTerm(open)) {
                    return false;
                }
                text.add(-sign);
            }
            return true;
        }

        private boolean readTerm(int open) {
            if (!readOne(open)) {
                return false;
            }
            for (int turn = 0; turn < TAPE_MOST && token == '*'; turn++) {
                step();
                if (!readOne(open)) {
                    return false;
                }
                text.add(-'*');
            }
            return true;
        }

        private boolean readOne(int open) {
            if (token == Token.LITERAL || Token.isName(token)) {
                text.add(token == Token.LITERAL ? literal : -token);
                step();
                return true;
            }
            if (open >= OPEN_MOST) {
                return false;
            }
            if (token == '-') {
                step();
                if (!readOne(open + 1)) {
                    return false;
                }
                text.add(-Token.NEGATE);
                return true;
            }
            return token == '(' && readBracket(open + 1);
        }

        private boolean readBracket(int open) {
            step();
            if (!readAny(open) || token != ')') {
                return false;
            }
            step();
            return true;
        }

        private void step() {
            while (at < size && (tape[at] == 32 || tape[at] == 10)) {
                at++;
            }
            start = at;
            if (at >= size) {
                token = Token.END;
            } else if (isLetter(tape[at])) {
                stepWord();
            } else if (isDigit(tape[at])) {
                stepNumber();
            } else {
                token = Token.SIGNS.indexOf((char) tape[at]) >= 0 ? tape[at] : Token.WRONG;
                at++;
            }
        }

        private void stepWord() {
            while (at < size && isLetter(tape[at])) {
                at++;
            }
            token = Token.WRONG;
            for (int word = Token.KEY_YIELDS; word <= Token.NAME_HOUR; word++) {
                if (isSpelled(Token.spelling(word))) {
                    token = word;
                }
            }
        }

        private boolean isSpelled(String word) {
            if (word.length() != at - start) {
                return false;
            }
            for (int i = 0; i < word.length(); i++) {
                if (word.charAt(i) != tape[start + i]) {
                    return false;
                }
            }
            return true;
        }

        private void stepNumber() {
            literal = 0;
            while (at < size && isDigit(tape[at])) {
                literal = literal * 10 + tape[at] - '0';
                at++;
            }
            token = at - start <= DIGITS_MOST ? Token.LITERAL : Token.WRONG;
        }

        private static boolean isLetter(int letter) {
            return letter >= 'a' && letter <= 'z';
        }

        private static boolean isDigit(int letter) {
            return letter >= '0' && letter <= '9';
        }
    }

    /** The texts, and what each kind makes of what the rule tells. */
    private static final class Law {
        private static final int DEBTOR_MOST = 20, LADY_TASTES = 3, DEBTOR_TASTE = 9;
        private static final int GIRL_HOUR = 11, GIRL_CUP = 5, DEBTOR_NIGHTS = 7;

        private final Text[] texts = new Text[TEXTS_MOST];
        private int many = 1;
        private final int[] stack = new int[Text.STACK_MOST];

        Law() {
            for (int i = 0; i < TEXTS_MOST; i++) {
                texts[i] = new Text();
            }
            texts[0].beFirst();
        }

        int size() {
            return many;
        }

        boolean isFull() {
            return many >= TEXTS_MOST;
        }

        boolean hasText(int text) {
            return text >= 0 && text < many;
        }

        /** Where a text is read to; it counts only once it is kept. */
        Text nextText() {
            return texts[Math.min(many, TEXTS_MOST - 1)];
        }

        int keepNext() {
            many = Math.min(many + 1, TEXTS_MOST);
            return many - 1;
        }

        int yieldOf(House house, int one) {
            if (!house.lodges(one) || house.trouble[one] == 0) {
                return 0;
            }
            int v = bounded(ruling(house).value(Text.PART_YIELDS, house, one, 0, stack));
            return bounded(yieldByKind(house, one, v));
        }

        boolean suitsCup(House house, int one, int cup) {
            if (!house.lodges(one) || !isCup(cup)) {
                return false;
            }
            int taste = house.taste[cup];
            boolean yes = ruling(house).value(Text.PART_SUITS, house, one, taste, stack) != 0;
            boolean asClerk = yes && taste != house.number[one];
            switch (house.kind[one]) {
                case CLERK: return asClerk;
                case LADY: return yes || taste < LADY_TASTES;
                case DEBTOR: return asClerk || taste == DEBTOR_TASTE;
                case GIRL: return cup == GIRL_CUP;
                case SNORER: return true;
                default: return yes;
            }
        }

        int suitBits(House house, int one) {
            int bits = 0;
            for (int cup = 0; cup < CUPS; cup++) {
                if (suitsCup(house, one, cup)) {
                    bits |= 1 << cup;
                }
            }
            return bits;
        }

        int easeOf(House house, int one) {
            if (!house.lodges(one)) {
                return 0;
            }
            int v = bounded(ruling(house).value(Text.PART_EASES, house, one, 0, stack));
            switch (house.kind[one]) {
                case CLERK: return v / 2;
                case LADY: return 0;
                case DEBTOR: return house.night % DEBTOR_NIGHTS == 0 ? -1 : v / 2;
                case GIRL: return -house.number[one];
                case SNORER: return house.news[one] > 0 ? house.trouble[one] : v;
                default: return v;
            }
        }

        void easeOne(House house, int one) {
            if (house.lodges(one)) {
                house.trouble[one] = bounded(house.trouble[one] - easeOf(house, one));
            }
        }

        private int yieldByKind(House house, int one, int v) {
            int asClerk = house.night % 2 == 0 ? v : v + house.number[one];
            switch (house.kind[one]) {
                case CLERK: return asClerk;
                case LADY: return 2 * v;
                case DEBTOR: return Math.min(DEBTOR_MOST, asClerk);
                case GIRL: return house.hour < GIRL_HOUR ? 0 : 2 * v;
                case SNORER: return house.news[one] > 0 ? 0 : v;
                default: return v;
            }
        }

        private Text ruling(House house) {
            return texts[hasText(house.rule) ? house.rule : 0];
        }
    }

    /** What goes from whom into which cup, by turns. */
    private static final class Pouring {
        final int[][] into = new int[ONES_MOST][CUPS];

        /** A night whole: what is poured. */
        int pass(Law law, House house) {
            int poured = pourAll(law, house);
            for (int one = 0; one < house.ones; one++) {
                law.easeOne(house, one);
            }
            house.night++;
            return poured;
        }

        /** A night till all is poured: into and the cups then tell it. */
        int pourAll(Law law, House house) {
            for (int cup = 0; cup < CUPS; cup++) {
                house.hold[cup] = 0;
            }
            int poured = 0;
            for (int one = 0; one < house.ones && one < ONES_MOST; one++) {
                poured += pourOf(law, house, one);
            }
            return poured;
        }

        private int pourOf(Law law, House house, int one) {
            int all = law.yieldOf(house, one);
            int left = all;
            for (int cup = 0; cup < CUPS; cup++) {
                int goes = Math.min(left, house.want[cup] - house.hold[cup]);
                if (goes > 0 && !law.suitsCup(house, one, cup)) {
                    goes = 0;
                }
                into[one][cup] = goes;
                house.hold[cup] += goes;
                left -= goes;
            }
            return all - left;
        }
    }

    /** Who could give what into which cups, were it poured as one likes. */
    private static final class Demand {
        private int ones;
        private final int[] yields = new int[ONES_MOST];
        private final int[] suits = new int[ONES_MOST];
        private final int[] wants = new int[CUPS];

        void measure(Law law, House house) {
            ones = Math.min(house.ones, ONES_MOST);
            for (int one = 0; one < ones; one++) {
                yields[one] = law.yieldOf(house, one);
                suits[one] = law.suitBits(house, one);
            }
            System.arraycopy(house.want, 0, wants, 0, CUPS);
        }

        /** The least cut is the most flow: so no flow is sought. */
        int most() {
            int least = cutBy(0);
            for (int set = 1; set < 1 << ones; set++) {
                least = Math.min(least, cutBy(set));
            }
            return least;
        }

        int leastCut() {
            int most = most();
            for (int set = 0; set < 1 << ones; set++) {
                if (cutBy(set) == most) {
                    return set;
                }
            }
            return 0;
        }

        int starved() {
            int served = 0;
            for (int one = 0; one < ones; one++) {
                if (yields[one] > 0) {
                    served |= suits[one];
                }
            }
            return (1 << CUPS) - 1 & ~served;
        }

        int leastLost() {
            int first = NONE;
            int greatest = -1;
            for (int one = 0; one < ones; one++) {
                int most = mostWithoutOne(one);
                if (most > greatest) {
                    greatest = most;
                    first = one;
                }
            }
            return first;
        }

        int mostWithoutOne(int one) {
            if (one < 0 || one >= ones) {
                return most();
            }
            int was = yields[one];
            yields[one] = 0;
            int most = most();
            yields[one] = was;
            return most;
        }

        int emptiest() {
            int first = 0;
            for (int cup = 1; cup < CUPS; cup++) {
                if (mostWithWant(cup, 0) > mostWithWant(first, 0)) {
                    first = cup;
                }
            }
            return first;
        }

        int dearest() {
            int first = 0;
            for (int cup = 1; cup < CUPS; cup++) {
                if (mostWithOneMore(cup) > mostWithOneMore(first)) {
                    first = cup;
                }
            }
            return first;
        }

        int mostWithOneMore(int cup) {
            return isCup(cup) ? mostWithWant(cup, bounded(wants[cup] + 1)) : most();
        }

        int mostWithWant(int cup, int want) {
            if (!isCup(cup)) {
                return most();
            }
            int was = wants[cup];
            wants[cup] = want;
            int most = most();
            wants[cup] = was;
            return most;
        }

        /** What those not of the set yield, and what the cups want that any of the set suits. */
        private int cutBy(int set) {
            int cut = 0;
            int cups = 0;
            for (int one = 0; one < ones; one++) {
                if ((set >> one & 1) == 0) {
                    cut += yields[one];
                } else {
                    cups |= suits[one];
                }
            }
            for (int cup = 0; cup < CUPS; cup++) {
                if ((cups >> cup & 1) != 0) {
                    cut += wants[cup];
                }
            }
            return cut;
        }
    }

    /** A row of numbers of a sort, or none. */
    private static final class Sheet {
        static final int GONE = -1, BYTES = 0, SHORTS = 1, INTS = 2, ITEMS_MOST = 40;

        int sort = GONE;
        int size;
        final int[] items = new int[ITEMS_MOST];

        boolean isMissing() {
            return sort == GONE;
        }

        void become(int newSort, int newSize) {
            sort = newSort;
            size = Math.max(0, Math.min(ITEMS_MOST, newSize));
            for (int i = 0; i < ITEMS_MOST; i++) {
                items[i] = 0;
            }
        }

        boolean hasRange(int from, int n) {
            return from >= 0 && n >= 0 && from <= size - n;
        }

        boolean put(int i, int v) {
            if (!hasRange(i, 1)) {
                return false;
            }
            if (sort == BYTES) {
                items[i] = (byte) v;
            } else {
                items[i] = sort == SHORTS ? (short) v : v;
            }
            return true;
        }
    }
}

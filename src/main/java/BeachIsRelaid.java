public final class BeachIsRelaid {
    public static final int NONE = -1, BAD = -2, STATE = -3, FULL = -4;
    public static final long NO = -4611686018427387904L;

    private static final int MISSING = -11, OUTSIDE = -12, UNLIKE = -13, TOO_SMALL = -14;
    private static final int FAULTS = -100;

    private static final int SIDE = 6, CELLS = 36, REACHES = 6;
    private static final int MOST_MARK = 9, MOST_NUMBER = 9, MOST_TIDE = 999, MOST_LAID = 9999;
    private static final int MOST_TAKES = 99, MOST_MINUTES = 999, MOST_WRONG = 7;
    private static final int TIDES_TOLD = 100, MOST_SEEDS = 20;
    private static final int CREW = 4, TEXTS = 6, TAPE = 160, SHEETS = 4, SHEET_SIZE = 40, SORTS = 3;
    private static final long FIRST_COLUMN = 0x41041041L, LAST_COLUMN = 0x820820820L;

    private static final int CLERK = 0, BOY = 1, MASTER = 2, LAD = 3, GIRL = 4, STOUT = 5, KINDS = 6;

    // A token of a text is one int: a NUMBER is itself, all others lie below 0.
    // The same ints are the code that a text becomes.
    private static final int MARK = -1, ROW = -2, COLUMN = -3, TIDE = -4, NUMBER = -5, BESIDE = -6;
    private static final int OR = -7, AND = -8, NOT = -9, LESS = -10, EQUAL = -11;
    private static final int PLUS = -12, MINUS = -13, TIMES = -14, NEGATE = -15;
    private static final int OPEN = -16, CLOSE = -17, SEMICOLON = -18;
    private static final int TAKES = -19, LAYS = -20, LEAVES = -21, END = -22, BROKEN = -23;
    private static final int NAMES = 6, PARTS = 3, MOST_OPEN = 5, MOST_DIGITS = 4;
    private static final int PART_TAKES = 0, PART_LAYS = 1, PART_LEAVES = 2;
    private static final String FIRST_TEXT = "takes 2 + mark ; lays mark ; leaves 0 ;";

    private final Beach now = new Beach();
    private final Beach thought = new Beach();
    private final Beach kept = new Beach();
    private boolean isKept = false;
    private final Reader reader = new Reader();
    private final Rules rules = new Rules();
    private final Night nightWork = new Night();
    private final Ways ways = new Ways();
    private final Sheet[] sheets = new Sheet[SHEETS];

    public BeachIsRelaid() {
        for (int i = 0; i < SHEETS; i++) {
            sheets[i] = new Sheet();
        }
        for (int i = 0; i < FIRST_TEXT.length(); i++) {
            reader.take(FIRST_TEXT.charAt(i));
        }
        reader.readTape();
        rules.add(reader.made());
        reader.forget();
    }

    // ---- the shore, staff

    public int set(int what, int of, int v) {
        int was = told(of, what);
        if (was < 0 || what > 4 || v < 0 || v > mostOf(what)) {
            return BAD;
        }
        One who = now.member(of);
        if (what == 0) {
            now.tide = v;
        } else if (what == 1 && isCell(of)) {
            now.marks[of] = v;
        } else if (what == 2 && isCell(of)) {
            now.plans[of] = v;
        } else if (what == 3 && who != null) {
            who.number = v;
        } else if (what == 4 && who != null) {
            who.at = v;
        }
        return was;
    }

    private static int mostOf(int what) {
        switch (what) {
            case 0: return MOST_TIDE;
            case 1:
            case 2: return MOST_MARK;
            case 3: return MOST_NUMBER;
            default: return CELLS - 1;
        }
    }

    public int staff(int kind, int number, int on) {
        if (kind < 0 || kind >= KINDS || number < 0 || number > MOST_NUMBER || !isCell(on)) {
            return BAD;
        }
        return now.join(kind, number, on);
    }

    public int told(int of, int what) {
        if (what == 0) {
            return now.tide;
        }
        if (what == 1) {
            return isCell(of) ? now.marks[of] : BAD;
        }
        if (what == 2) {
            return now.planOf(of);
        }
        One who = now.member(of);
        if (who == null) {
            return BAD;
        }
        switch (what) {
            case 3: return who.number;
            case 4: return who.at;
            case 5: return who.kind;
            case 6: return who.laid;
            default: return BAD;
        }
    }

    public int asks(int one, int c, int what) {
        One who = now.member(one);
        if (who == null || !isCell(c)) {
            return BAD;
        }
        switch (what) {
            case 0: return rules.takesOf(now, who, c);
            case 1: return rules.laysOf(now, who, c);
            case 2: return apart(who.at, c);
            case 3: return rules.minutesOf(now, who, c);
            default: return BAD;
        }
    }

    // ---- texts

    public int feed(int letter) {
        return letter < 0 || letter > 255 ? BAD : reader.take(letter);
    }

    public int text() {
        if (rules.many >= TEXTS) {
            return FULL;
        }
        reader.readTape();
        reader.forget();
        return reader.fault == NONE ? rules.add(reader.made()) : FAULTS - reader.fault;
    }

    public int force(int text) {
        if (rules.textAt(text) == null) {
            return BAD;
        }
        int was = now.rule;
        now.rule = text;
        return was;
    }

    // ---- tides, nights

    public int tide(int reach) {
        if (reach < 0 || reach > REACHES) {
            return BAD;
        }
        if (now.tide >= MOST_TIDE) {
            return STATE;
        }
        rules.flood(now, reach);
        return now.wrongCells();
    }

    public int relay(int one, int c) {
        One who = now.member(one);
        return who == null || !isCell(c) ? BAD : rules.lay(now, who, c);
    }

    public int night(int one, int m) {
        One who = now.member(one);
        if (who == null || m < 0 || m > MOST_MINUTES) {
            return BAD;
        }
        nightWork.pass(now, who, rules, m);
        return nightWork.relaid;
    }

    public int run(int one, int m, int what) {
        thought.become(now);
        One who = thought.member(one);
        if (who == null || m < 0 || m > MOST_MINUTES) {
            return BAD;
        }
        nightWork.pass(thought, who, rules, m);
        switch (what) {
            case 0: return nightWork.spent;
            case 1: return nightWork.relaid;
            case 2: return thought.wrongCells();
            case 3: return who.at;
            default: return BAD;
        }
    }

    public long wrong(int what) {
        if (what == 0) {
            return now.wrongBits();
        }
        if (what >= 10 && isCell(what - 10)) {
            return heapWith(now.wrongBits(), what - 10);
        }
        One who = what >= 50 ? now.member(what - 50) : null;
        return who == null ? NO : rules.trueCells(now, who);
    }

    public int shore(int what) {
        switch (what) {
            case 0: return now.wrongCells();
            case 1: return heaps(now.wrongBits());
            case 2: return greatestHeap(now.wrongBits());
            case 3: return worstReach();
            case 4: return wrongBehind(worstReach());
            case 5: return now.firstWrong();
            default: return BAD;
        }
    }

    private static int heaps(long wrong) {
        int many = 0;
        long rest = wrong;
        for (int c = 0; c < CELLS; c++) {
            if (has(rest, c)) {
                rest &= ~heapWith(wrong, c);
                many++;
            }
        }
        return many;
    }

    private static int greatestHeap(long wrong) {
        int most = 0;
        long rest = wrong;
        for (int c = 0; c < CELLS; c++) {
            if (has(rest, c)) {
                long heap = heapWith(wrong, c);
                rest &= ~heap;
                most = Math.max(most, Long.bitCount(heap));
            }
        }
        return most;
    }

    private static long heapWith(long wrong, int c) {
        long heap = has(wrong, c) ? bit(c) : 0;
        for (int i = 0; i < CELLS; i++) {
            long wider = wrong & withBeside(heap);
            if (wider == heap) {
                break;
            }
            heap = wider;
        }
        return heap;
    }

    private static long withBeside(long cells) {
        long along = (cells & ~LAST_COLUMN) << 1 | (cells & ~FIRST_COLUMN) >>> 1;
        return cells | along | cells << SIDE | cells >>> SIDE;
    }

    private int worstReach() {
        int worst = 0;
        int most = wrongBehind(0);
        for (int reach = 1; reach <= REACHES; reach++) {
            int many = wrongBehind(reach);
            if (many > most) {
                most = many;
                worst = reach;
            }
        }
        return worst;
    }

    private int wrongBehind(int reach) {
        thought.become(now);
        rules.flood(thought, reach);
        return thought.wrongCells();
    }

    // ---- what would be best

    public int tour(int sheet, int one) {
        Sheet row = sheetAt(sheet);
        thought.become(now);
        One who = thought.member(one);
        if (row == null || who == null) {
            return BAD;
        }
        if (!row.isThere()) {
            return MISSING;
        }
        if (!row.tellsCellsOnce()) {
            return BAD;
        }
        int minutes = 0;
        for (int i = 0; i < row.size; i++) {
            minutes += rules.lay(thought, who, row.item(i));
        }
        return minutes;
    }

    public int soonest(int one, int what) {
        One who = now.member(one);
        if (who == null || what < 0 || what > 1) {
            return BAD;
        }
        if (!ways.find(now)) {
            return STATE;
        }
        ways.order(now, who, rules);
        return what == 0 ? ways.minutes : ways.first;
    }

    public int together(int what) {
        boolean isOne = what >= 10 && now.member(what - 10) != null;
        if (what != 0 && !isOne) {
            return BAD;
        }
        if (!ways.find(now)) {
            return STATE;
        }
        ways.send(now, rules);
        return what == 0 ? ways.minutes : ways.goalOf(what - 10);
    }

    public int nearest(int c, int what) {
        if (!isCell(c) || what < 0 || what > 1) {
            return BAD;
        }
        int who = NONE;
        int least = NONE;
        for (int i = 0; i < CREW; i++) {
            One one = now.member(i);
            if (one != null) {
                int minutes = rules.minutesOf(now, one, c);
                if (who == NONE || minutes < least) {
                    who = i;
                    least = minutes;
                }
            }
        }
        return what == 0 ? who : least;
    }

    public long share(int row, int part) {
        int all = now.wrongCells();
        if (row < 0 || row >= SIDE || all == 0) {
            return NO;
        }
        int many = 0;
        for (int column = 0; column < SIDE; column++) {
            if (now.isWrong(row * SIDE + column)) {
                many++;
            }
        }
        return fraction(many, all, part);
    }

    private static long fraction(int above, int below, int part) {
        int common = common(above, below);
        if (common == 0 || part < 0 || part > 1) {
            return NO;
        }
        return (part == 0 ? above : below) / common;
    }

    private static int common(int a, int b) {
        int greater = a;
        int lesser = b;
        for (int i = 0; i < CELLS && lesser != 0; i++) {
            int rest = greater % lesser;
            greater = lesser;
            lesser = rest;
        }
        return greater;
    }

    // ---- what was laid

    public int tells(int sheet, int one, int what) {
        Sheet row = sheetAt(sheet);
        thought.become(now);
        One who = thought.member(one);
        if (row == null || who == null || what < 0 || what > 6) {
            return BAD;
        }
        if (!row.isThere()) {
            return MISSING;
        }
        if (row.size > CELLS) {
            return BAD;
        }
        switch (what) {
            case 0: return firstOther(row, who);
            case 1: return kindsOf(row, who);
            case 2: return numbersOf(row, who);
            case 3: return tidesOf(row, who);
            case 4: return leastTideOf(row, who);
            case 5: return textsOf(row, who);
            default: return reachesOf(row);
        }
    }

    private int firstOther(Sheet row, One who) {
        for (int c = 0; c < row.size; c++) {
            if (rules.laysOf(thought, who, c) != row.item(c)) {
                return c;
            }
        }
        return NONE;
    }

    private int kindsOf(Sheet row, One who) {
        int kinds = 0;
        for (int kind = 0; kind < KINDS; kind++) {
            who.kind = kind;
            kinds |= firstOther(row, who) == NONE ? 1 << kind : 0;
        }
        return kinds;
    }

    private int numbersOf(Sheet row, One who) {
        int numbers = 0;
        for (int number = 0; number <= MOST_NUMBER; number++) {
            who.number = number;
            numbers |= firstOther(row, who) == NONE ? 1 << number : 0;
        }
        return numbers;
    }

    private int tidesOf(Sheet row, One who) {
        int many = 0;
        for (int tide = 0; tide < TIDES_TOLD; tide++) {
            thought.tide = tide;
            many += firstOther(row, who) == NONE ? 1 : 0;
        }
        return many;
    }

    private int leastTideOf(Sheet row, One who) {
        for (int tide = 0; tide < TIDES_TOLD; tide++) {
            thought.tide = tide;
            if (firstOther(row, who) == NONE) {
                return tide;
            }
        }
        return NONE;
    }

    private int textsOf(Sheet row, One who) {
        int texts = 0;
        for (int text = 0; text < rules.many; text++) {
            thought.rule = text;
            texts |= firstOther(row, who) == NONE ? 1 << text : 0;
        }
        return texts;
    }

    private int reachesOf(Sheet row) {
        int reaches = 0;
        for (int reach = 0; reach <= REACHES; reach++) {
            thought.become(now);
            rules.flood(thought, reach);
            reaches |= thought.liesAs(row) ? 1 << reach : 0;
        }
        return reaches;
    }

    public int film(int sheet, int one, int n) {
        Sheet row = sheetAt(sheet);
        One who = now.member(one);
        if (row == null || who == null || n < 0 || n > CELLS) {
            return BAD;
        }
        row.become(0, n);
        for (int c = 0; c < n; c++) {
            row.put(c, rules.laysOf(now, who, c));
        }
        return n;
    }

    public int drawn(int seed) {
        return wrongBehind(reachOf(seed));
    }

    private static int reachOf(int seed) {
        int z = seed * 1103515245 + 12345;
        return (z >>> 9) % (REACHES + 1);
    }

    public long chance(int seed, int m, int k, int part) {
        if (m < 1 || m > MOST_SEEDS || k < 0 || k > CELLS) {
            return NO;
        }
        int many = 0;
        for (int i = 0; i < m; i++) {
            many += wrongBehind(reachOf(seed + i)) >= k ? 1 : 0;
        }
        return fraction(many, m, part);
    }

    public int image() {
        kept.become(now);
        isKept = true;
        return kept.size;
    }

    public int back() {
        if (!isKept) {
            return STATE;
        }
        now.become(kept);
        return now.size;
    }

    public int count(int what) {
        switch (what) {
            case 0: return now.size;
            case 1: return now.wrongCells();
            case 2: return now.tide;
            case 3: return rules.many;
            case 4: return reader.size;
            case 5: return now.rule;
            default: return BAD;
        }
    }

    // ---- the host

    public int sheet(int sheet, int sort, int n) {
        Sheet row = sheetAt(sheet);
        if (row == null || sort < NONE || sort >= SORTS) {
            return BAD;
        }
        if (sort == NONE) {
            row.become(NONE, 0);
            return 1;
        }
        if (n > SHEET_SIZE) {
            return BAD;
        }
        if (n < 0) {
            return TOO_SMALL;
        }
        row.become(sort, n);
        return 1;
    }

    public int cell(int sheet, int i, int v) {
        Sheet row = sheetAt(sheet);
        if (row == null) {
            return BAD;
        }
        if (!row.isThere()) {
            return MISSING;
        }
        if (i < 0 || i >= row.size) {
            return OUTSIDE;
        }
        row.put(i, v);
        return 1;
    }

    public int copy(int sheet, int i, int other, int j, int n) {
        Sheet row = sheetAt(sheet);
        Sheet goal = sheetAt(other);
        if (row == null || goal == null) {
            return BAD;
        }
        if (!row.isThere() || !goal.isThere()) {
            return MISSING;
        }
        if (row.sort != goal.sort) {
            return UNLIKE;
        }
        if (i < 0 || j < 0 || n < 0 || n > row.size - i || n > goal.size - j) {
            return OUTSIDE;
        }
        System.arraycopy(row.items, i, goal.items, j, n);
        return n;
    }

    public int crew(int sheet, int sort, int from, int n) {
        Sheet row = sheetAt(sheet);
        if (row == null || sort < 0 || sort >= SORTS || n < 0 || n > CREW) {
            return BAD;
        }
        if (row.isThere() && row.sort != sort) {
            return UNLIKE;
        }
        if (!row.isThere()) {
            return MISSING;
        }
        int came = 0;
        for (int i = 0; i < n; i++) {
            int first = from + 3 * i;
            if (first < 0 || first > row.size - 3) {
                return OUTSIDE;
            }
            int number = staff(row.item(first), row.item(first + 1), row.item(first + 2));
            came += number >= 0 ? 1 : 0;
        }
        return came;
    }

    public int taken(int one, int k) {
        if (k < 0 || k >= KINDS) {
            return BAD;
        }
        One who = now.member(one);
        if (who == null) {
            return MISSING;
        }
        int kind = who.kind;
        for (int i = 0; i < KINDS && kind != k && kind != NONE; i++) {
            kind = above(kind);
        }
        return kind == k ? who.number : UNLIKE;
    }

    private static int above(int kind) {
        switch (kind) {
            case BOY:
            case MASTER:
            case STOUT: return CLERK;
            case LAD: return BOY;
            case GIRL: return MASTER;
            default: return NONE;
        }
    }

    private Sheet sheetAt(int number) {
        return number >= 0 && number < SHEETS ? sheets[number] : null;
    }

    private static boolean isCell(int c) {
        return c >= 0 && c < CELLS;
    }

    private static int apart(int a, int b) {
        return Math.abs(a % SIDE - b % SIDE) + Math.abs(a / SIDE - b / SIDE);
    }

    private static long bit(int c) {
        return 1L << c;
    }

    private static boolean has(long cells, int c) {
        return (cells & bit(c)) != 0;
    }

    private static int bound(int v, int least, int most) {
        return Math.max(least, Math.min(v, most));
    }

    /** One of the staff. */
    private static final class One {
        int kind;
        int number;
        int at;
        int laid;

        void become(One other) {
            kind = other.kind;
            number = other.number;
            at = other.at;
            laid = other.laid;
        }

        // Without a bound: that is laid once, on what comes out in the end.
        int takesBy(int v, int plan) {
            switch (kind) {
                case BOY: return v / 2;
                case MASTER: return 2 * v;
                case LAD: return plan == 0 ? v / 2 + 1 : v / 2;
                case GIRL: return plan == MOST_MARK ? 1 : 2 * v;
                case STOUT: return v + number;
                default: return v;
            }
        }

        int laysBy(int v, int plan, int c) {
            int asBoy = c % 2 != 0 ? Math.min(v + 1, MOST_MARK) : v;
            switch (kind) {
                case BOY: return asBoy;
                case LAD: return c / SIDE == number ? 0 : asBoy;
                case MASTER:
                case GIRL: return plan;
                case STOUT: return v == plan ? v : 0;
                default: return v;
            }
        }
    }

    /** All that an image keeps: what is, what is only thought, and the image itself are such. */
    private static final class Beach {
        final int[] marks = new int[CELLS];
        final int[] plans = new int[CELLS];
        final One[] crew = new One[CREW];
        int size;
        int tide;
        int rule;

        Beach() {
            for (int i = 0; i < CREW; i++) {
                crew[i] = new One();
            }
        }

        void become(Beach other) {
            System.arraycopy(other.marks, 0, marks, 0, CELLS);
            System.arraycopy(other.plans, 0, plans, 0, CELLS);
            for (int i = 0; i < CREW; i++) {
                if (crew[i] != null && other.crew[i] != null) {
                    crew[i].become(other.crew[i]);
                }
            }
            size = other.size;
            tide = other.tide;
            rule = other.rule;
        }

        One member(int number) {
            return number >= 0 && number < size && number < CREW ? crew[number] : null;
        }

        int join(int kind, int number, int on) {
            if (size < 0 || size >= CREW || crew[size] == null) {
                return FULL;
            }
            One who = crew[size];
            who.kind = kind;
            who.number = number;
            who.at = on;
            who.laid = 0;
            size++;
            return size - 1;
        }

        int planOf(int c) {
            return isCell(c) ? plans[c] : BAD;
        }

        boolean isWrong(int c) {
            return isCell(c) && marks[c] != plans[c];
        }

        int wrongCells() {
            return Long.bitCount(wrongBits());
        }

        long wrongBits() {
            long cells = 0;
            for (int c = 0; c < CELLS; c++) {
                if (marks[c] != plans[c]) {
                    cells |= bit(c);
                }
            }
            return cells;
        }

        int firstWrong() {
            for (int c = 0; c < CELLS; c++) {
                if (marks[c] != plans[c]) {
                    return c;
                }
            }
            return NONE;
        }

        int wrongBeside(int c) {
            if (c < 0 || c >= CELLS) {
                return 0;
            }
            int column = c % SIDE;
            int many = c >= SIDE && marks[c - SIDE] != plans[c - SIDE] ? 1 : 0;
            many += c < CELLS - SIDE && marks[c + SIDE] != plans[c + SIDE] ? 1 : 0;
            many += column > 0 && marks[c - 1] != plans[c - 1] ? 1 : 0;
            many += column < SIDE - 1 && marks[c + 1] != plans[c + 1] ? 1 : 0;
            return many;
        }

        int nearestWrong(int at, long without) {
            int nearest = NONE;
            for (int c = 0; c < CELLS; c++) {
                boolean counts = marks[c] != plans[c] && !has(without, c);
                if (counts && (nearest == NONE || apart(at, c) < apart(at, nearest))) {
                    nearest = c;
                }
            }
            return nearest;
        }

        boolean liesAs(Sheet row) {
            for (int c = 0; c < row.size && c < CELLS; c++) {
                if (marks[c] != row.item(c)) {
                    return false;
                }
            }
            return true;
        }
    }

    /** A text as code: operands ahead of what joins them, the three parts one behind the other. */
    private static final class Text {
        final int[] code;
        final int[] ends;

        Text(int[] code, int[] ends) {
            this.code = code;
            this.ends = ends;
        }
    }

    /** The tape, and how it is read. */
    private static final class Reader {
        final int[] tape = new int[TAPE];
        int size;
        final int[] tokens = new int[TAPE + 1];
        final int[] places = new int[TAPE + 1];
        int next;
        int open;
        final int[] code = new int[TAPE];
        int length;
        final int[] ends = new int[PARTS];
        int fault = NONE;

        int take(int letter) {
            if (size < 0 || size >= TAPE) {
                return FULL;
            }
            tape[size] = letter;
            size++;
            return size;
        }

        void forget() {
            size = 0;
        }

        Text made() {
            int many = bound(length, 0, TAPE);
            int[] madeCode = new int[many];
            System.arraycopy(code, 0, madeCode, 0, many);
            return new Text(madeCode, ends.clone());
        }

        void readTape() {
            split();
            next = 0;
            open = 0;
            length = 0;
            fault = NONE;
            for (int part = 0; part < PARTS; part++) {
                expect(part == PART_TAKES ? TAKES : part == PART_LAYS ? LAYS : LEAVES);
                if (fault == NONE) {
                    chain(0);
                }
                expect(SEMICOLON);
                ends[part] = length;
            }
            expect(END);
        }

        private void split() {
            int place = 0;
            for (int i = 0; i <= TAPE; i++) {
                place = behindBlanks(place);
                int end = endOf(place);
                places[i] = place;
                tokens[i] = tokenOf(place, end);
                // a broken one can stand nowhere: no reader gets behind it
                if (tokens[i] == END || tokens[i] == BROKEN) {
                    return;
                }
                place = end;
            }
        }

        private int byteAt(int place) {
            return place >= 0 && place < size && place < TAPE ? tape[place] : NONE;
        }

        private int behindBlanks(int from) {
            int place = from;
            for (int i = 0; i < TAPE && (byteAt(place) == 32 || byteAt(place) == 10); i++) {
                place++;
            }
            return place;
        }

        private int endOf(int from) {
            int place = from + 1;
            if (isLetter(byteAt(from))) {
                for (int i = 0; i < TAPE && isLetter(byteAt(place)); i++) {
                    place++;
                }
            } else if (isDigit(byteAt(from))) {
                for (int i = 0; i < TAPE && isDigit(byteAt(place)); i++) {
                    place++;
                }
            }
            return place;
        }

        private static boolean isLetter(int letter) {
            return letter >= 'a' && letter <= 'z';
        }

        private static boolean isDigit(int letter) {
            return letter >= '0' && letter <= '9';
        }

        private int tokenOf(int from, int till) {
            int letter = byteAt(from);
            if (isLetter(letter)) {
                return wordOf(from, till);
            }
            if (isDigit(letter)) {
                return numberOf(from, till);
            }
            switch (letter) {
                case NONE: return END;
                case '(': return OPEN;
                case ')': return CLOSE;
                case ';': return SEMICOLON;
                case '+': return PLUS;
                case '-': return MINUS;
                case '*': return TIMES;
                case '<': return LESS;
                case '=': return EQUAL;
                default: return BROKEN;
            }
        }

        private int numberOf(int from, int till) {
            if (till - from > MOST_DIGITS) {
                return BROKEN;
            }
            int number = 0;
            for (int place = from; place < till; place++) {
                number = number * 10 + byteAt(place) - '0';
            }
            return number;
        }

        private int wordOf(int from, int till) {
            if (spells(from, till, "mark")) {
                return MARK;
            }
            if (spells(from, till, "row")) {
                return ROW;
            }
            if (spells(from, till, "column")) {
                return COLUMN;
            }
            if (spells(from, till, "tide")) {
                return TIDE;
            }
            if (spells(from, till, "number")) {
                return NUMBER;
            }
            if (spells(from, till, "beside")) {
                return BESIDE;
            }
            if (spells(from, till, "takes")) {
                return TAKES;
            }
            if (spells(from, till, "lays")) {
                return LAYS;
            }
            if (spells(from, till, "leaves")) {
                return LEAVES;
            }
            if (spells(from, till, "or")) {
                return OR;
            }
            if (spells(from, till, "and")) {
                return AND;
            }
            return spells(from, till, "not") ? NOT : BROKEN;
        }

        private boolean spells(int from, int till, String word) {
            if (till - from != word.length()) {
                return false;
            }
            for (int i = 0; i < word.length(); i++) {
                if (byteAt(from + i) != word.charAt(i)) {
                    return false;
                }
            }
            return true;
        }

        private int token() {
            return next >= 0 && next <= TAPE ? tokens[next] : END;
        }

        private void fail() {
            if (fault == NONE && next >= 0 && next <= TAPE) {
                fault = places[next];
            }
        }

        private void expect(int token) {
            if (fault != NONE) {
                return;
            }
            if (token() == token) {
                next++;
            } else {
                fail();
            }
        }

        private void emit(int what) {
            if (fault == NONE && length >= 0 && length < TAPE) {
                code[length] = what;
                length++;
            }
        }

        private boolean opens() {
            if (open >= MOST_OPEN) {
                fail();
                return false;
            }
            open++;
            next++;
            return true;
        }

        // The levels of an E: 0 or, 1 and, 2 not < =, 3 + -, 4 *, 5 a ONE.
        private static int levelOf(int token) {
            switch (token) {
                case OR: return 0;
                case AND: return 1;
                case PLUS:
                case MINUS: return 3;
                case TIMES: return 4;
                default: return NONE;
            }
        }

        private void chain(int level) {
            operand(level + 1);
            for (int i = 0; i < TAPE && fault == NONE && levelOf(token()) == level; i++) {
                int sign = token();
                next++;
                operand(level + 1);
                emit(sign);
            }
        }

        private void operand(int level) {
            if (level == 2) {
                negation();
            } else if (level >= 5) {
                single();
            } else {
                chain(level);
            }
        }

        private void negation() {
            if (token() == NOT) {
                if (opens()) {
                    negation();
                    open--;
                    emit(NOT);
                }
                return;
            }
            chain(3);
            int sign = token();
            if (fault == NONE && (sign == LESS || sign == EQUAL)) {
                next++;
                chain(3);
                emit(sign);
            }
        }

        private void single() {
            int token = token();
            if (token >= BESIDE) {
                emit(token);
                next++;
            } else if (token == MINUS) {
                if (opens()) {
                    single();
                    open--;
                    emit(NEGATE);
                }
            } else if (token == OPEN) {
                if (opens()) {
                    chain(0);
                    expect(CLOSE);
                    open--;
                }
            } else {
                fail();
            }
        }
    }

    /** The texts, and what they and the kinds tell of a cell. */
    private static final class Rules {
        final Text[] texts = new Text[TEXTS];
        int many;
        final int[] said = new int[NAMES];
        final int[] stack = new int[TAPE];
        final int[] left = new int[CELLS];

        int add(Text text) {
            if (many < 0 || many >= TEXTS) {
                return FULL;
            }
            texts[many] = text;
            many++;
            return many - 1;
        }

        Text textAt(int number) {
            return number >= 0 && number < many && number < TEXTS ? texts[number] : null;
        }

        int takesOf(Beach beach, One who, int c) {
            int plan = beach.planOf(c);
            say(beach, c, plan, who.number);
            int v = bound(worth(beach.rule, PART_TAKES), 0, MOST_TAKES);
            return bound(who.takesBy(v, plan), 1, MOST_TAKES);
        }

        int laysOf(Beach beach, One who, int c) {
            int plan = beach.planOf(c);
            say(beach, c, plan, who.number);
            int v = bound(worth(beach.rule, PART_LAYS), 0, MOST_MARK);
            return bound(who.laysBy(v, plan, c), 0, MOST_MARK);
        }

        int leftOf(Beach beach, int c) {
            say(beach, c, isCell(c) ? beach.marks[c] : 0, 0);
            return bound(worth(beach.rule, PART_LEAVES), 0, MOST_MARK);
        }

        int minutesOf(Beach beach, One who, int c) {
            return apart(who.at, c) + takesOf(beach, who, c);
        }

        int lay(Beach beach, One who, int c) {
            if (!isCell(c)) {
                return 0;
            }
            int minutes = apart(who.at, c) + takesOf(beach, who, c);
            beach.marks[c] = laysOf(beach, who, c);
            who.at = c;
            who.laid = Math.min(who.laid + 1, MOST_LAID);
            return minutes;
        }

        void flood(Beach beach, int reach) {
            int first = CELLS - SIDE * bound(reach, 0, REACHES);
            for (int c = first; c < CELLS; c++) {
                left[c] = leftOf(beach, c);
            }
            for (int c = first; c < CELLS; c++) {
                beach.marks[c] = left[c];
            }
            beach.tide++;
        }

        long trueCells(Beach beach, One who) {
            long cells = 0;
            for (int c = 0; c < CELLS; c++) {
                if (laysOf(beach, who, c) == beach.plans[c]) {
                    cells |= bit(c);
                }
            }
            return cells;
        }

        private void say(Beach beach, int c, int mark, int number) {
            said[MARK - MARK] = mark;
            said[MARK - ROW] = c / SIDE;
            said[MARK - COLUMN] = c % SIDE;
            said[MARK - TIDE] = beach.tide;
            said[MARK - NUMBER] = number;
            said[MARK - BESIDE] = beach.wrongBeside(c);
        }

        private int worth(int rule, int part) {
            Text text = textAt(rule);
            if (text == null || part < 0 || part >= PARTS) {
                return 0;
            }
            int first = part == 0 ? 0 : text.ends[part - 1];
            int top = 0;
            for (int i = Math.max(first, 0); i < text.ends[part] && i < text.code.length; i++) {
                int what = text.code[i];
                if (what >= BESIDE) {
                    if (top >= 0 && top < TAPE) {
                        stack[top] = what < 0 ? said[MARK - what] : what;
                        top++;
                    }
                    continue;
                }
                int height = what == NOT || what == NEGATE ? top : top - 1;
                if (height >= 1 && height < TAPE) {
                    stack[height - 1] = joined(what, stack[height - 1], stack[height]);
                    top = height;
                }
            }
            return stack[0];
        }

        // Of not and of a sign ahead of a ONE, b does not matter.
        private static int joined(int sign, int a, int b) {
            switch (sign) {
                case OR: return a != 0 || b != 0 ? 1 : 0;
                case AND: return a != 0 && b != 0 ? 1 : 0;
                case NOT: return a == 0 ? 1 : 0;
                case LESS: return a < b ? 1 : 0;
                case EQUAL: return a == b ? 1 : 0;
                case PLUS: return a + b;
                case MINUS: return a - b;
                case TIMES: return a * b;
                default: return -a;
            }
        }
    }

    /** How a night went. */
    private static final class Night {
        int spent;
        int relaid;

        void pass(Beach beach, One who, Rules rules, int minutes) {
            spent = 0;
            relaid = 0;
            long done = 0;
            for (int i = 0; i < CELLS; i++) {
                int c = beach.nearestWrong(who.at, done);
                if (c == NONE || rules.minutesOf(beach, who, c) > minutes - spent) {
                    break;
                }
                spent += rules.lay(beach, who, c);
                relaid++;
                done |= bit(c);
            }
        }
    }

    /** The best order of one, the best way to send all. */
    private static final class Ways {
        private static final int SETS = 128, TOO_MUCH = 1000000;

        final int[] cells = new int[MOST_WRONG];
        int many;
        // of the order: by the set of cells where one was and the last of them, the way still ahead;
        // of sending: by the first who is not sent yet and the set of cells that are taken, the minutes still ahead
        final int[] ahead = new int[SETS * MOST_WRONG];
        final int[] cost = new int[CREW * MOST_WRONG];
        final int[] goals = new int[CREW];
        int minutes;
        int first;

        boolean find(Beach beach) {
            many = 0;
            for (int c = 0; c < CELLS; c++) {
                if (beach.isWrong(c)) {
                    if (many >= MOST_WRONG) {
                        return false;
                    }
                    cells[many] = c;
                    many++;
                }
            }
            return true;
        }

        void order(Beach beach, One who, Rules rules) {
            int all = (1 << many) - 1;
            for (int was = all; was > 0; was--) {
                for (int last = 0; last < many; last++) {
                    setAhead(was * MOST_WRONG + last, was == all ? 0 : wayAhead(was, last));
                }
            }
            minutes = 0;
            first = NONE;
            int takes = 0;
            for (int i = 0; i < many; i++) {
                int way = apart(who.at, cellAt(i)) + aheadAt((1 << i) * MOST_WRONG + i);
                if (first == NONE || way < minutes) {
                    minutes = way;
                    first = cellAt(i);
                }
                takes += rules.takesOf(beach, who, cellAt(i));
            }
            minutes += takes;
        }

        private int wayAhead(int was, int last) {
            int least = TOO_MUCH;
            for (int i = 0; i < many; i++) {
                if ((was >> i & 1) == 0) {
                    int way = apart(cellAt(last), cellAt(i)) + aheadAt((was | 1 << i) * MOST_WRONG + i);
                    least = Math.min(least, way);
                }
            }
            return least;
        }

        void send(Beach beach, Rules rules) {
            int size = beach.size;
            for (int one = 0; one < size; one++) {
                weigh(beach, rules, one);
            }
            int sets = 1 << many;
            int sent = Math.min(size, many);
            for (int taken = 0; taken < sets; taken++) {
                setAhead(size * SETS + taken, Integer.bitCount(taken) == sent ? 0 : TOO_MUCH);
            }
            for (int one = size - 1; one >= 0; one--) {
                for (int taken = 0; taken < sets; taken++) {
                    setAhead(one * SETS + taken, costAhead(one, taken));
                }
            }
            minutes = aheadAt(0);
            follow(size);
        }

        private void weigh(Beach beach, Rules rules, int one) {
            One who = beach.member(one);
            for (int i = 0; i < many; i++) {
                int index = one * MOST_WRONG + i;
                if (who != null && index >= 0 && index < cost.length) {
                    cost[index] = rules.minutesOf(beach, who, cellAt(i));
                }
            }
        }

        private int costAhead(int one, int taken) {
            int least = aheadAt((one + 1) * SETS + taken);
            for (int i = 0; i < many; i++) {
                if ((taken >> i & 1) == 0) {
                    least = Math.min(least, costBy(one, taken, i));
                }
            }
            return least;
        }

        private int costBy(int one, int taken, int i) {
            int index = one * MOST_WRONG + i;
            int own = index >= 0 && index < cost.length ? cost[index] : TOO_MUCH;
            return own + aheadAt((one + 1) * SETS + (taken | 1 << i));
        }

        // The first of like ones: each takes the first cell by which it still costs no more.
        private void follow(int size) {
            int taken = 0;
            for (int one = 0; one < size && one < CREW; one++) {
                goals[one] = NONE;
                for (int i = 0; i < many && goals[one] == NONE; i++) {
                    boolean isFree = (taken >> i & 1) == 0;
                    if (isFree && costBy(one, taken, i) == aheadAt(one * SETS + taken)) {
                        goals[one] = cellAt(i);
                        taken |= 1 << i;
                    }
                }
            }
        }

        int goalOf(int one) {
            return one >= 0 && one < CREW ? goals[one] : NONE;
        }

        private int cellAt(int i) {
            return i >= 0 && i < MOST_WRONG ? cells[i] : 0;
        }

        private int aheadAt(int index) {
            return index >= 0 && index < ahead.length ? ahead[index] : TOO_MUCH;
        }

        private void setAhead(int index, int v) {
            if (index >= 0 && index < ahead.length) {
                ahead[index] = v;
            }
        }
    }

    /** A row of numbers, or none: its sort is NONE then. */
    private static final class Sheet {
        final int[] items = new int[SHEET_SIZE];
        int sort = NONE;
        int size;

        boolean isThere() {
            return sort != NONE;
        }

        void become(int newSort, int n) {
            sort = newSort;
            size = bound(n, 0, SHEET_SIZE);
            for (int i = 0; i < SHEET_SIZE; i++) {
                items[i] = 0;
            }
        }

        int item(int i) {
            return i >= 0 && i < size && i < SHEET_SIZE ? items[i] : 0;
        }

        void put(int i, int v) {
            if (i >= 0 && i < size && i < SHEET_SIZE) {
                items[i] = sort == 0 ? (byte) v : sort == 1 ? (short) v : v;
            }
        }

        boolean tellsCellsOnce() {
            long seen = 0;
            for (int i = 0; i < size; i++) {
                int c = item(i);
                if (!isCell(c) || has(seen, c)) {
                    return false;
                }
                seen |= bit(c);
            }
            return true;
        }
    }
}

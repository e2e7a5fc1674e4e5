/** A day of races on which everyone must win something; ../shared/DOC.md says what each method promises. */
public final class EveryoneWins {
    public static final int NONE = -1, BAD = -2, STATE = -3, FULL = -4;
    public static final long NO = -4611686018427387904L;

    private static final int NO_CHILD = -5, NO_RACE = -6, NOT_SO = -7;
    private static final int NOT_TOLD = -1000, NO_CHILD_HERE = -1005, NO_RACE_HERE = -1006;
    private static final int NOTHING = -11, OUTSIDE = -12, UNLIKE = -13, BELOW = -14;
    private static final int MOST_CHILDREN = 8, MOST_RACES = 6, MOST_TEXTS = 6, SHEETS = 4;
    private static final int TAPE_ROOM = 160, SHEET_ROOM = 40;
    private static final int MOST_WINS = 6, MOST_RIBBONS = 3, MOST_MORE = 9, HIGHEST = 99;
    private static final int YARDS = 0, WORTH = 1, WON_NONE = 2, PARTS = 3;
    private static final int SHORTS = 1, MOST_SORT = 2;
    private static final int SEEDS = 100000, MOST_SEEDS = 60, LUCKS = 100;
    private static final long LOT_TIMES = 48271L, LOT_MODULO = 2147483647L;
    private static final String FIRST_TEXT = "yards 0 ; worth 10 - won * 3 ; none 0 - 5 ;";

    private final Children children = new Children();
    private final Races races = new Races();
    private final Texts texts = new Texts();
    private final Tape tape = new Tape();
    private final Reader reader = new Reader(tape);
    private final Day day = new Day(children, races, texts);
    private final Best best = new Best();
    private final Orders orders = new Orders(races, day);
    private final Sheet[] sheets = new Sheet[SHEETS];
    private final int[] keptLuck = new int[MOST_CHILDREN];
    private final Children keptChildren = new Children();
    private final Races keptRaces = new Races();
    private int keptLaw;
    private boolean kept;
    // What tryAll() found.
    private int fitBits;
    private int fitMany;
    private int fitLeast;

    public EveryoneWins() {
        for (int s = 0; s < sheets.length; s++) {
            sheets[s] = new Sheet();
        }
        for (int i = 0; i < FIRST_TEXT.length(); i++) {
            tape.add(FIRST_TEXT.charAt(i));
        }
        readTape();
    }

    // ---- children, the law

    public int count(int what) {
        switch (what) {
            case 0: return races.many;
            case 1: return children.many;
            case 2: return texts.many;
            case 3: return texts.law;
            case 4: return tape.size;
            default: return BAD;
        }
    }

    public int child(int speedLuck) {
        if (!within(speedLuck, 0, 9999)) {
            return BAD;
        }
        return children.add(speedLuck / 100, speedLuck % 100);
    }

    public int put(int c, int what, int v) {
        if (!isChild(c)) {
            return NO_CHILD;
        }
        if (!within(what, 0, 2) || !within(v, 0, HIGHEST)) {
            return NOT_SO;
        }
        return replaced(children.row(what), c, v);
    }

    public int told(int c, int what) {
        if (!isChild(c)) {
            return NO_CHILD;
        }
        return within(what, 0, 2) ? at(children.row(what), c) : NOT_SO;
    }

    public int feed(int n, int a, int b, int c, int d, int e) {
        if (!within(n, 1, 5) || !isByte(a) || !isByte(b) || !isByte(c) || !isByte(d) || !isByte(e)) {
            return BAD;
        }
        if (tape.size + n > TAPE_ROOM) {
            return FULL;
        }
        for (int i = 0; i < n; i++) {
            tape.add(i == 0 ? a : i == 1 ? b : i == 2 ? c : i == 3 ? d : e);
        }
        return tape.size;
    }

    public int text() {
        return readTape();
    }

    public int force(int t) {
        if (!within(t, 0, texts.many - 1)) {
            return BAD;
        }
        int was = texts.law;
        texts.law = t;
        return was;
    }

    public int asks(int part, int c, int r, int wins) {
        boolean such = within(part, 0, PARTS - 1) && isChild(c) && (r == -1 || isRace(r)) && within(wins, 0, MOST_WINS);
        return such ? day.says(part, c, r, wins) : NOT_TOLD;
    }

    // ---- races

    public int race(int kindMore, int who) {
        if (!within(kindMore, 0, 59) || !areChildren(who)) {
            return BAD;
        }
        return races.add(kindMore / 10, kindMore % 10, who);
    }

    public int enter(int r, int what, int v) {
        if (!isRace(r)) {
            return NO_RACE;
        }
        if (what == 0 && areChildren(v)) {
            return replaced(races.runners, r, v);
        }
        if (what == 1 && within(v, 0, MOST_RIBBONS)) {
            return replaced(races.ribbons, r, v);
        }
        return NOT_SO;
    }

    public int card(int r, int what) {
        if (!isRace(r)) {
            return NO_RACE;
        }
        return within(what, 0, 3) ? at(races.row(what), r) : NOT_SO;
    }

    public int comes(int r, int k) {
        if (!isRace(r)) {
            return NO_RACE;
        }
        if (!within(k, 0, MOST_CHILDREN - 1)) {
            return NOT_SO;
        }
        day.begin();
        return k < day.lineUp(r) ? at(day.line, k) : NONE;
    }

    public int does(int c, int r) {
        if (!isChild(c)) {
            return NO_CHILD_HERE;
        }
        if (!isRace(r)) {
            return NO_RACE_HERE;
        }
        return day.scoreOf(c, r, day.says(YARDS, c, r, 0));
    }

    public int day(int what) {
        if (!within(what, 0, 3) && !isChild(what - 10)) {
            return NOT_TOLD;
        }
        day.run();
        switch (what) {
            case 0: return day.emptyHanded;
            case 1: return day.crossed;
            case 2: return day.joy;
            case 3: return day.ribbons;
            default: return at(day.won, what - 10);
        }
    }

    // ---- what would be best

    public int let(int what) {
        return within(what, 0, 2) ? changingRunners(what, 0) : NOT_TOLD;
    }

    public int spare(int what) {
        return within(what, 0, 2) ? changingRunners(what, 1) : NOT_TOLD;
    }

    public int drop(int what) {
        if (!within(what, 0, 2)) {
            return NOT_TOLD;
        }
        day.run();
        best.startFrom(day);
        for (int r = 0; r < races.many; r++) {
            day.runWithout(r);
            best.weigh(r, day);
        }
        return best.tells(what);
    }

    public int order(int what) {
        if (!within(what, 0, 2)) {
            return NOT_TOLD;
        }
        day.run();
        best.startFrom(day);
        orders.weighAll(best);
        return best.tells(what);
    }

    public int tie(int what) {
        if (!within(what, 0, 2)) {
            return NOT_TOLD;
        }
        day.run();
        best.startFrom(day);
        for (int r = 0; r < races.many; r++) {
            int was = at(races.ribbons, r);
            for (int n = 0; n <= MOST_RIBBONS; n++) {
                set(races.ribbons, r, n);
                day.run();
                best.weigh(10 * r + n, day);
            }
            set(races.ribbons, r, was);
        }
        return best.tells(what);
    }

    public int needs(int c, int wins) {
        if (!isChild(c)) {
            return NO_CHILD;
        }
        if (!within(wins, 0, MOST_WINS)) {
            return NOT_SO;
        }
        int was = at(children.yards, c);
        int fewest = NONE;
        for (int v = 0; v <= HIGHEST && fewest == NONE; v++) {
            set(children.yards, c, v);
            day.run();
            if (at(day.won, c) >= wins) {
                fewest = v;
            }
        }
        set(children.yards, c, was);
        return fewest;
    }

    // ---- told days

    public int judge(int s) {
        Sheet sheet = sheetAt(s);
        int refusal = refusalOfTelling(sheet);
        if (sheet == null || refusal != 0) {
            return refusal;
        }
        day.run();
        return firstOtherwise(sheet);
    }

    public int kinds(int s, int r, int sort) {
        Sheet sheet = sheetAt(s);
        int refusal = refusalOfTelling(sheet);
        if (sheet == null || refusal != 0) {
            return refusal;
        }
        if (!isRace(r)) {
            return NO_RACE;
        }
        switch (sort) {
            case 0: tryAll(sheet, races.kind, r, Kinds.LAST); break;
            case 1: tryAll(sheet, races.more, r, MOST_MORE); break;
            case 2: tryAll(sheet, races.ribbons, r, MOST_RIBBONS); break;
            default: return NOT_SO;
        }
        return fitBits;
    }

    public int quick(int s, int c, int sortWhat) {
        Sheet sheet = sheetAt(s);
        int refusal = refusalOfTelling(sheet);
        if (sheet == null || refusal != 0) {
            return refusal;
        }
        if (!isChild(c)) {
            return NO_CHILD;
        }
        if (!within(sortWhat, 0, 29) || sortWhat % 10 > 1) {
            return NOT_SO;
        }
        tryAll(sheet, children.row(sortWhat / 10), c, HIGHEST);
        return sortWhat % 10 == 0 ? fitMany : fitLeast;
    }

    public int laws(int s) {
        Sheet sheet = sheetAt(s);
        int refusal = refusalOfTelling(sheet);
        if (sheet == null || refusal != 0) {
            return refusal;
        }
        int was = texts.law;
        int bits = 0;
        for (int t = 0; t < texts.many; t++) {
            texts.law = t;
            day.run();
            bits |= firstOtherwise(sheet) == NONE ? 1 << t : 0;
        }
        texts.law = was;
        return bits;
    }

    public int film(int s) {
        Sheet sheet = sheetAt(s);
        if (sheet == null) {
            return BAD;
        }
        day.run();
        sheet.become(SHORTS, races.many);
        for (int r = 0; r < races.many; r++) {
            sheet.write(r, at(day.winners, r));
        }
        return day.ribbons;
    }

    // ---- luck by lots

    public int drawn(int seed, int what) {
        if (!within(seed, 0, SEEDS - 1) || !within(what, 0, 1)) {
            return NOT_TOLD;
        }
        keepLuck();
        runByLots(seed);
        bringLuckBack();
        return what == 0 ? day.crossed : day.joy;
    }

    public long odds(int seed, int seeds, int most, int part) {
        boolean such = within(seed, 0, SEEDS - 1) && within(seeds, 1, MOST_SEEDS)
            && within(most, 0, MOST_CHILDREN) && within(part, 0, 1);
        if (!such) {
            return NO;
        }
        keepLuck();
        int good = 0;
        for (int i = 0; i < seeds; i++) {
            runByLots(seed + i);
            good += day.crossed <= most ? 1 : 0;
        }
        bringLuckBack();
        int common = commonDivisor(good, seeds);
        return common < 1 ? NO : (part == 0 ? good : seeds) / common;
    }

    public int image() {
        keptChildren.become(children);
        keptRaces.become(races);
        keptLaw = texts.law;
        kept = true;
        return races.many;
    }

    public int back() {
        if (!kept) {
            return STATE;
        }
        children.become(keptChildren);
        races.become(keptRaces);
        texts.law = keptLaw;
        return races.many;
    }

    // ---- the host

    public int sheet(int s, int sort, int n) {
        Sheet sheet = sheetAt(s);
        if (sheet == null || !within(sort, -1, MOST_SORT)) {
            return BAD;
        }
        if (sort == -1) {
            sheet.vanish();
            return 1;
        }
        if (n > SHEET_ROOM) {
            return BAD;
        }
        if (n < 0) {
            return BELOW;
        }
        sheet.become(sort, n);
        return 1;
    }

    public int cell(int s, int i, int v) {
        Sheet sheet = sheetAt(s);
        if (sheet == null) {
            return BAD;
        }
        if (sheet.isMissing()) {
            return NOTHING;
        }
        if (!within(i, 0, sheet.size - 1)) {
            return OUTSIDE;
        }
        sheet.write(i, v);
        return 1;
    }

    public int copy(int s, int i, int other, int j, int n) {
        Sheet from = sheetAt(s);
        Sheet into = sheetAt(other);
        if (from == null || into == null) {
            return BAD;
        }
        if (from.isMissing() || into.isMissing()) {
            return NOTHING;
        }
        if (from.sort != into.sort) {
            return UNLIKE;
        }
        if (!from.spans(i, n) || !into.spans(j, n)) {
            return OUTSIDE;
        }
        System.arraycopy(from.cells, i, into.cells, j, n);
        return n;
    }

    public int childrenBy(int s, int sort, int at, int n) {
        Sheet sheet = sheetAt(s);
        if (sheet == null || !within(sort, 0, MOST_SORT) || !within(n, 0, MOST_CHILDREN)) {
            return BAD;
        }
        if (sheet.isMissing()) {
            return NOTHING;
        }
        if (sheet.sort != sort) {
            return UNLIKE;
        }
        int came = 0;
        for (int k = 0; k < n; k++) {
            if (!within(at, 0, sheet.size - 1 - k)) {
                return OUTSIDE;
            }
            came += child(sheet.read(at + k)) >= 0 ? 1 : 0;
        }
        return came;
    }

    public int taken(int i, int kind) {
        if (!within(kind, 0, Kinds.LAST + 1)) {
            return BAD;
        }
        if (!within(i, 0, MOST_RACES + MOST_CHILDREN - 1)) {
            return OUTSIDE;
        }
        if (i < MOST_RACES) {
            return takenForRace(i, kind);
        }
        int c = i - MOST_RACES;
        if (!isChild(c)) {
            return NOTHING;
        }
        return kind == Kinds.LAST + 1 ? at(children.speed, c) : UNLIKE;
    }

    // ---- what several of them need

    private static boolean within(int v, int least, int most) {
        return least <= v && v <= most;
    }

    private static boolean isByte(int v) {
        return within(v, 0, 255);
    }

    private static int at(int[] row, int i) {
        return i >= 0 && i < row.length ? row[i] : 0;
    }

    private static void set(int[] row, int i, int v) {
        if (i >= 0 && i < row.length) {
            row[i] = v;
        }
    }

    private static int replaced(int[] row, int i, int v) {
        int was = at(row, i);
        set(row, i, v);
        return was;
    }

    private static void copyRow(int[] from, int[] into) {
        for (int i = 0; i < from.length && i < into.length; i++) {
            into[i] = from[i];
        }
    }

    private static boolean has(int bits, int i) {
        return (bits >> i & 1) != 0;
    }

    private static int commonDivisor(int a, int b) {
        int x = a;
        int y = b;
        // By Euclid y shrinks in every round, so that as many rounds as b is are enough.
        for (int i = 0; i < b && y != 0; i++) {
            int rest = x % y;
            x = y;
            y = rest;
        }
        return x;
    }

    private boolean isChild(int c) {
        return within(c, 0, children.many - 1);
    }

    private boolean isRace(int r) {
        return within(r, 0, races.many - 1);
    }

    private boolean areChildren(int bits) {
        return within(bits, 0, (1 << children.many) - 1);
    }

    private Sheet sheetAt(int s) {
        return s >= 0 && s < sheets.length ? sheets[s] : null;
    }

    private int readTape() {
        Text next = texts.next();
        if (next == null) {
            return FULL;
        }
        int fault = reader.readInto(next);
        tape.size = 0;
        return fault >= 0 ? -100 - fault : texts.keepNext();
    }

    /** Weighs the day with each one CHILD more or less in each one RACE: those whose bit among the RUNNERS is as told. */
    private int changingRunners(int what, int bit) {
        day.run();
        best.startFrom(day);
        for (int r = 0; r < races.many; r++) {
            int was = at(races.runners, r);
            for (int c = 0; c < children.many; c++) {
                if (has(was, c) == (bit == 1)) {
                    set(races.runners, r, was ^ 1 << c);
                    day.run();
                    best.weigh(10 * r + c, day);
                }
            }
            set(races.runners, r, was);
        }
        return best.tells(what);
    }

    /** What judge() and its like answer of a SHEET that can't tell a day; 0 if it can. */
    private int refusalOfTelling(Sheet sheet) {
        if (sheet == null) {
            return BAD;
        }
        if (sheet.isMissing()) {
            return NOTHING;
        }
        return sheet.size != races.many ? BAD : 0;
    }

    private int firstOtherwise(Sheet sheet) {
        for (int r = 0; r < races.many; r++) {
            if (sheet.read(r) != at(day.winners, r)) {
                return r;
            }
        }
        return NONE;
    }

    /** Puts 0 .. most into a place of a row: how many fit the SHEET, the least of them, and the first ones' bits. */
    private void tryAll(Sheet sheet, int[] row, int i, int most) {
        int was = at(row, i);
        fitBits = 0;
        fitMany = 0;
        fitLeast = NONE;
        for (int v = most; v >= 0; v--) {
            set(row, i, v);
            day.run();
            if (firstOtherwise(sheet) == NONE) {
                fitBits |= v <= MOST_MORE ? 1 << v : 0;
                fitMany++;
                fitLeast = v;
            }
        }
        set(row, i, was);
    }

    private void keepLuck() {
        copyRow(children.luck, keptLuck);
    }

    private void bringLuckBack() {
        copyRow(keptLuck, children.luck);
    }

    private void runByLots(int seed) {
        long lot = seed + 1;
        for (int c = 0; c < children.many; c++) {
            lot = lot * LOT_TIMES % LOT_MODULO;
            set(children.luck, c, (int) (lot % LUCKS));
        }
        day.run();
    }

    private int takenForRace(int r, int kind) {
        if (!isRace(r)) {
            return NOTHING;
        }
        return Kinds.isOne(at(races.kind, r), kind) ? r : UNLIKE;
    }

    /** The CHILDREN, a row for each thing that is known of them. */
    private static final class Children {
        final int[] speed = new int[MOST_CHILDREN];
        final int[] luck = new int[MOST_CHILDREN];
        final int[] yards = new int[MOST_CHILDREN];
        int many;

        int add(int itsSpeed, int itsLuck) {
            if (many >= MOST_CHILDREN) {
                return FULL;
            }
            set(speed, many, itsSpeed);
            set(luck, many, itsLuck);
            set(yards, many, 0);
            return many++;
        }

        int[] row(int what) {
            return what == 0 ? speed : what == 1 ? luck : yards;
        }

        void become(Children other) {
            copyRow(other.speed, speed);
            copyRow(other.luck, luck);
            copyRow(other.yards, yards);
            many = other.many;
        }
    }

    /** The RACES, a row for each thing that is known of them. */
    private static final class Races {
        final int[] kind = new int[MOST_RACES];
        final int[] more = new int[MOST_RACES];
        final int[] runners = new int[MOST_RACES];
        final int[] ribbons = new int[MOST_RACES];
        int many;

        int add(int itsKind, int itsMore, int who) {
            if (many >= MOST_RACES) {
                return FULL;
            }
            set(kind, many, itsKind);
            set(more, many, itsMore);
            set(runners, many, who);
            set(ribbons, many, 1);
            return many++;
        }

        int[] row(int what) {
            return what == 0 ? kind : what == 1 ? more : what == 2 ? runners : ribbons;
        }

        int howManyRun(int r) {
            return Integer.bitCount(at(runners, r));
        }

        /** KIND and MORE are left as they are: those of a RACE never change. */
        void become(Races other) {
            copyRow(other.runners, runners);
            copyRow(other.ribbons, ribbons);
            many = other.many;
        }
    }

    /** What the KINDS of RACES differ in. */
    private static final class Kinds {
        static final int FLAT = 0, SACK = 1, EGG = 2, BACKWARD = 3, SLOW = 4, CHEER = 5, LAST = CHEER;
        private static final int[] ABOVE = {-1, FLAT, FLAT, SACK, EGG, FLAT};

        static boolean isOne(int kind, int asked) {
            int k = kind;
            for (int i = 0; i <= LAST && k >= 0; i++) {
                if (k == asked) {
                    return true;
                }
                k = k < ABOVE.length ? ABOVE[k] : -1;
            }
            return false;
        }

        static int doesIn(int kind, int speed, int luck, int more) {
            switch (kind) {
                case SACK: return inSack(speed, luck);
                case EGG: return luck + more;
                case BACKWARD: return 99 - inSack(speed, luck);
                case SLOW: return luck + more - speed;
                case CHEER: return (7 * speed + 3 * luck + more) % 31;
                default: return speed;
            }
        }

        private static int inSack(int speed, int luck) {
            return speed / 2 + luck;
        }

        static int yardsCountIn(int kind, int yards, int more) {
            switch (kind) {
                case BACKWARD: return yards * more / 2;
                case SLOW: return -yards;
                default: return yards;
            }
        }

        /** For how many there is a ribbon, by the KIND alone: there may be fewer RUNNERS. */
        static int ribbonsIn(int kind, int ribbons, int runners) {
            if (isOne(kind, EGG) && runners < 3) {
                return 1;
            }
            return kind == CHEER ? runners / 2 : ribbons;
        }
    }

    /** The TEXTS, and which of them is THE LAW. */
    private static final class Texts {
        private final Text[] all = new Text[MOST_TEXTS];
        int many;
        int law;

        Texts() {
            for (int t = 0; t < all.length; t++) {
                all[t] = new Text();
            }
        }

        /** The TEXT that is read into; it is one of them only after keepNext(). */
        Text next() {
            return textAt(many);
        }

        int keepNext() {
            return many++;
        }

        Text theLaw() {
            return textAt(law);
        }

        private Text textAt(int t) {
            return t >= 0 && t < all.length ? all[t] : null;
        }
    }

    /** A TEXT as code for a stack: what is 0 or more is a number, what is less a name's value or an operation. */
    private static final class Text {
        static final int SPEED = 0, LUCK = 1, WON = 2, MORE = 3, RUNNERS = 4, RACE = 5, NAMES = 6;
        static final int NEGATE = -7, DENY = -8, TIMES = -9, PLUS = -10, MINUS = -11;
        static final int LESS = -12, SAME = -13, AND = -14, OR = -15;
        // Five operands at most wait ahead of a ONE (of or, and, < or =, + or -, *), in each of 5 open ( and outside.
        private static final int STACK_ROOM = 32;

        private final int[] code = new int[TAPE_ROOM];
        private final int[] ends = new int[PARTS];
        private final int[] stack = new int[STACK_ROOM];
        private int size;
        private int top;

        void clear() {
            size = 0;
        }

        void add(int c) {
            if (size < code.length) {
                code[size] = c;
                size++;
            }
        }

        void addName(int name) {
            add(-1 - name);
        }

        void endPart(int part) {
            set(ends, part, size);
        }

        /** What a part tells, within its bounds. */
        int value(int part, int[] names) {
            int end = at(ends, part);
            top = 0;
            for (int i = part == 0 ? 0 : at(ends, part - 1); i < end; i++) {
                int c = at(code, i);
                if (c >= 0) {
                    push(c);
                } else if (c > NEGATE) {
                    push(at(names, -1 - c));
                } else if (c == NEGATE) {
                    push(-pop());
                } else if (c == DENY) {
                    push(pop() == 0 ? 1 : 0);
                } else {
                    int right = pop();
                    push(joined(c, pop(), right));
                }
            }
            return Math.max(part == YARDS ? 0 : -HIGHEST, Math.min(HIGHEST, pop()));
        }

        private static int joined(int operation, int left, int right) {
            switch (operation) {
                case TIMES: return left * right;
                case PLUS: return left + right;
                case MINUS: return left - right;
                case LESS: return left < right ? 1 : 0;
                case SAME: return left == right ? 1 : 0;
                case AND: return left != 0 && right != 0 ? 1 : 0;
                default: return left != 0 || right != 0 ? 1 : 0;
            }
        }

        private void push(int v) {
            if (top < stack.length) {
                stack[top] = v;
                top++;
            }
        }

        private int pop() {
            if (top <= 0 || top > stack.length) {
                return 0;
            }
            top--;
            return stack[top];
        }
    }

    /** THE TAPE, and the TOKENS that it is cut into. */
    private static final class Tape {
        // What a token is: of a sign its byte, else one of these, or what follows on FIRST_NAME, on FIRST_NUMBER.
        static final int WRONG = 0, END = 1;
        static final int KEY_YARDS = 2, KEY_WORTH = 3, KEY_NONE = 4, KEY_OR = 5, KEY_AND = 6, KEY_NOT = 7;
        static final int FIRST_NAME = 256, FIRST_NUMBER = 512;
        private static final int LONGEST_NUMBER = 4;

        private final int[] bytes = new int[TAPE_ROOM];
        private final int[] tokens = new int[TAPE_ROOM];
        private final int[] places = new int[TAPE_ROOM];
        int size;
        private int many;

        void add(int b) {
            if (size < bytes.length) {
                bytes[size] = b;
                size++;
            }
        }

        /** Cuts all that stands here into tokens. */
        void cut() {
            many = 0;
            int end = 0;
            for (int i = 0; i < size; i++) {
                if (i >= end && !isBlank(at(bytes, i))) {
                    end = endOf(i);
                    keep(i, tokenOf(i, end));
                }
            }
        }

        /** Behind the last token there is END, and its place is behind all bytes. */
        int token(int i) {
            return i >= 0 && i < many && i < tokens.length ? tokens[i] : END;
        }

        int place(int i) {
            return i >= 0 && i < many && i < places.length ? places[i] : size;
        }

        private void keep(int place, int token) {
            set(places, many, place);
            set(tokens, many, token);
            many++;
        }

        private int endOf(int from) {
            boolean letters = isLetter(at(bytes, from));
            boolean digits = isDigit(at(bytes, from));
            int end = from + 1;
            for (int i = end; i < size && (letters && isLetter(at(bytes, i)) || digits && isDigit(at(bytes, i))); i++) {
                end = i + 1;
            }
            return end;
        }

        private int tokenOf(int from, int end) {
            int b = at(bytes, from);
            if (isLetter(b)) {
                return word(from, end);
            }
            if (isDigit(b)) {
                return end - from > LONGEST_NUMBER ? WRONG : FIRST_NUMBER + number(from, end);
            }
            return isSign(b) ? b : WRONG;
        }

        private int word(int from, int end) {
            return isWord("yards", from, end) ? KEY_YARDS
                : isWord("worth", from, end) ? KEY_WORTH
                : isWord("none", from, end) ? KEY_NONE
                : isWord("or", from, end) ? KEY_OR
                : isWord("and", from, end) ? KEY_AND
                : isWord("not", from, end) ? KEY_NOT
                : isWord("speed", from, end) ? FIRST_NAME + Text.SPEED
                : isWord("luck", from, end) ? FIRST_NAME + Text.LUCK
                : isWord("won", from, end) ? FIRST_NAME + Text.WON
                : isWord("more", from, end) ? FIRST_NAME + Text.MORE
                : isWord("runners", from, end) ? FIRST_NAME + Text.RUNNERS
                : isWord("race", from, end) ? FIRST_NAME + Text.RACE
                : WRONG;
        }

        private boolean isWord(String word, int from, int end) {
            if (word.length() != end - from) {
                return false;
            }
            for (int i = 0; i < word.length(); i++) {
                if (word.charAt(i) != at(bytes, from + i)) {
                    return false;
                }
            }
            return true;
        }

        private int number(int from, int end) {
            int number = 0;
            for (int i = from; i < end; i++) {
                number = number * 10 + at(bytes, i) - '0';
            }
            return number;
        }

        private static boolean isBlank(int b) {
            return b == 32 || b == 10;
        }

        private static boolean isLetter(int b) {
            return b >= 'a' && b <= 'z';
        }

        private static boolean isDigit(int b) {
            return b >= '0' && b <= '9';
        }

        private static boolean isSign(int b) {
            return b == '(' || b == ')' || b == ';' || b == '+' || b == '-' || b == '*' || b == '<' || b == '=';
        }
    }

    /** Makes a TEXT of THE TAPE. */
    private static final class Reader {
        private static final int MOST_OPEN = 5;

        private final Tape tape;
        private int next;
        private int token;
        private int open;
        private int fault;

        Reader(Tape tape) {
            this.tape = tape;
        }

        /** The place of the FAULT, or -1. */
        int readInto(Text text) {
            text.clear();
            tape.cut();
            next = 0;
            token = tape.token(0);
            open = 0;
            fault = -1;
            readPart(text, Tape.KEY_YARDS, YARDS);
            readPart(text, Tape.KEY_WORTH, WORTH);
            readPart(text, Tape.KEY_NONE, WON_NONE);
            expect(Tape.END);
            return fault;
        }

        private void readPart(Text text, int key, int part) {
            expect(key);
            readE(text);
            expect(';');
            text.endPart(part);
        }

        private void readE(Text text) {
            readAnd(text);
            for (int i = 0; i < TAPE_ROOM && token == Tape.KEY_OR; i++) {
                step();
                readAnd(text);
                text.add(Text.OR);
            }
        }

        private void readAnd(Text text) {
            readNot(text);
            for (int i = 0; i < TAPE_ROOM && token == Tape.KEY_AND; i++) {
                step();
                readNot(text);
                text.add(Text.AND);
            }
        }

        private void readNot(Text text) {
            if (token != Tape.KEY_NOT) {
                readComparison(text);
            } else if (opens()) {
                step();
                readNot(text);
                open--;
                text.add(Text.DENY);
            }
        }

        private void readComparison(Text text) {
            readSum(text);
            if (token == '<' || token == '=') {
                int operation = token == '<' ? Text.LESS : Text.SAME;
                step();
                readSum(text);
                text.add(operation);
            }
        }

        private void readSum(Text text) {
            readTerm(text);
            for (int i = 0; i < TAPE_ROOM && (token == '+' || token == '-'); i++) {
                int operation = token == '+' ? Text.PLUS : Text.MINUS;
                step();
                readTerm(text);
                text.add(operation);
            }
        }

        private void readTerm(Text text) {
            readOne(text);
            for (int i = 0; i < TAPE_ROOM && token == '*'; i++) {
                step();
                readOne(text);
                text.add(Text.TIMES);
            }
        }

        private void readOne(Text text) {
            if (token >= Tape.FIRST_NUMBER) {
                text.add(token - Tape.FIRST_NUMBER);
                step();
            } else if (token >= Tape.FIRST_NAME) {
                text.addName(token - Tape.FIRST_NAME);
                step();
            } else if (token == '-') {
                readNegated(text);
            } else if (token == '(') {
                readInBrackets(text);
            } else {
                fail();
            }
        }

        private void readNegated(Text text) {
            if (opens()) {
                step();
                readOne(text);
                open--;
                text.add(Text.NEGATE);
            }
        }

        private void readInBrackets(Text text) {
            if (opens()) {
                step();
                readE(text);
                expect(')');
                open--;
            }
        }

        /** Keeps the recursion low: what the document doesn't let open is a FAULT and isn't gone into. */
        private boolean opens() {
            if (open >= MOST_OPEN) {
                fail();
                return false;
            }
            open++;
            return true;
        }

        private void expect(int wanted) {
            if (token == wanted) {
                step();
            } else {
                fail();
            }
        }

        private void step() {
            next++;
            token = tape.token(next);
        }

        /** The first FAULT counts; no token is right after it, so that all who read come to their ends. */
        private void fail() {
            if (fault < 0) {
                fault = tape.place(next);
            }
            token = Tape.WRONG;
        }
    }

    /** A day as it goes: by now, or when it is over. */
    private static final class Day {
        private final Children children;
        private final Races races;
        private final Texts texts;
        final int[] won = new int[MOST_CHILDREN];
        final int[] line = new int[MOST_CHILDREN];
        final int[] winners = new int[MOST_RACES];
        private final int[] scores = new int[MOST_CHILDREN];
        private final int[] names = new int[Text.NAMES];
        int joy;
        int ribbons;
        int crossed;
        int emptyHanded;

        Day(Children children, Races races, Texts texts) {
            this.children = children;
            this.races = races;
            this.texts = texts;
        }

        void run() {
            runWithout(NONE);
        }

        void runWithout(int left) {
            begin();
            for (int r = 0; r < races.many; r++) {
                if (r != left) {
                    giveRibbons(r, lineUp(r));
                }
            }
            end();
        }

        void begin() {
            joy = 0;
            ribbons = 0;
            for (int c = 0; c < won.length; c++) {
                won[c] = 0;
            }
        }

        /** After lineUp() of the same RACE, which tells how many run. */
        void giveRibbons(int r, int runners) {
            int many = Math.min(runners, Kinds.ribbonsIn(at(races.kind, r), at(races.ribbons, r), runners));
            int bits = 0;
            for (int k = 0; k < many; k++) {
                int c = at(line, k);
                int wins = at(won, c);
                joy += says(WORTH, c, r, wins);
                set(won, c, wins + 1);
                bits |= 1 << c;
                ribbons++;
            }
            set(winners, r, bits);
        }

        void end() {
            crossed = 0;
            emptyHanded = 0;
            for (int c = 0; c < children.many; c++) {
                if (at(won, c) == 0) {
                    joy += says(WON_NONE, c, NONE, 0);
                    crossed++;
                    emptyHanded |= 1 << c;
                }
            }
        }

        /** Puts the RUNNERS into the line as they COME IN; how many they are. */
        int lineUp(int r) {
            int runners = at(races.runners, r);
            int many = 0;
            for (int c = 0; c < children.many; c++) {
                if (has(runners, c)) {
                    comesBehind(many, c, scoreOf(c, r, says(YARDS, c, r, at(won, c))));
                    many++;
                }
            }
            return many;
        }

        /** Of many who are in already, those with the same score have lesser numbers: they stay ahead. */
        private void comesBehind(int many, int c, int score) {
            int k = many;
            for (int i = many; i > 0 && at(scores, i - 1) < score; i--) {
                set(scores, i, at(scores, i - 1));
                set(line, i, at(line, i - 1));
                k = i - 1;
            }
            set(scores, k, score);
            set(line, k, c);
        }

        /** The SCORE, if the text tells so many yards; these are handed in to keep the calls flat. */
        int scoreOf(int c, int r, int told) {
            int kind = at(races.kind, r);
            int more = at(races.more, r);
            int yards = Math.min(HIGHEST, told + at(children.yards, c));
            return Kinds.doesIn(kind, at(children.speed, c), at(children.luck, c), more)
                + Kinds.yardsCountIn(kind, yards, more);
        }

        int says(int part, int c, int r, int wins) {
            boolean ofRace = r >= 0;
            set(names, Text.SPEED, at(children.speed, c));
            set(names, Text.LUCK, at(children.luck, c));
            set(names, Text.WON, wins);
            set(names, Text.MORE, ofRace ? at(races.more, r) : 0);
            set(names, Text.RUNNERS, ofRace ? races.howManyRun(r) : 0);
            set(names, Text.RACE, ofRace ? r : 0);
            Text law = texts.theLaw();
            return law == null ? 0 : law.value(part, names);
        }
    }

    /** The first of the best days that were weighed, if it is BETTER than the one it started from. */
    private static final class Best {
        private int found;
        private int crossed;
        private int joy;

        void startFrom(Day day) {
            take(NONE, day);
        }

        void weigh(int what, Day day) {
            if (day.crossed < crossed || day.crossed == crossed && day.joy > joy) {
                take(what, day);
            }
        }

        private void take(int what, Day day) {
            found = what;
            crossed = day.crossed;
            joy = day.joy;
        }

        int tells(int what) {
            return what == 0 ? found : what == 1 ? crossed : joy;
        }
    }

    /** All orders of the RACES, from the least digits on. */
    private static final class Orders {
        private static final int MOST_ORDERS = 720;

        private final Races races;
        private final Day day;
        private final int[] order = new int[MOST_RACES];
        // The day ahead of each place is kept, so that only what changed behind it is run again.
        private final int[][] wonAhead = new int[MOST_RACES][MOST_CHILDREN];
        private final int[] joyAhead = new int[MOST_RACES];

        Orders(Races races, Day day) {
            this.races = races;
            this.day = day;
        }

        void weighAll(Best best) {
            for (int k = 0; k < order.length; k++) {
                order[k] = k;
            }
            day.begin();
            keepAhead(0);
            int changed = 0;
            for (int i = 0; i < MOST_ORDERS && changed >= 0; i++) {
                runFrom(changed);
                best.weigh(digits(), day);
                changed = goOn();
            }
        }

        private void runFrom(int place) {
            if (place >= 0 && place < wonAhead.length && place < joyAhead.length) {
                copyRow(wonAhead[place], day.won);
                day.joy = joyAhead[place];
            }
            for (int k = place; k < races.many; k++) {
                keepAhead(k);
                int r = at(order, k);
                day.giveRibbons(r, day.lineUp(r));
            }
            day.end();
        }

        private void keepAhead(int place) {
            if (place >= 0 && place < wonAhead.length) {
                copyRow(day.won, wonAhead[place]);
                set(joyAhead, place, day.joy);
            }
        }

        /** The next order: the first place that it changes, or -1 if there is none. */
        private int goOn() {
            int place = races.many - 2;
            for (int i = 0; i < MOST_RACES && place >= 0 && at(order, place) > at(order, place + 1); i++) {
                place--;
            }
            if (place < 0) {
                return -1;
            }
            int last = races.many - 1;
            for (int i = 0; i < MOST_RACES && at(order, last) < at(order, place); i++) {
                last--;
            }
            swap(place, last);
            for (int i = place + 1, k = races.many - 1; i < k; i++, k--) {
                swap(i, k);
            }
            return place;
        }

        private void swap(int i, int k) {
            set(order, k, replaced(order, i, at(order, k)));
        }

        private int digits() {
            int all = 0;
            for (int k = 0; k < races.many; k++) {
                all = all * 10 + at(order, k) + 1;
            }
            return all;
        }
    }

    /** A row of numbers of a sort, or none. */
    private static final class Sheet {
        private static final int MISSING = -1, BYTES = 0;

        final int[] cells = new int[SHEET_ROOM];
        int sort = MISSING;
        int size;

        boolean isMissing() {
            return sort == MISSING;
        }

        void vanish() {
            sort = MISSING;
            size = 0;
        }

        void become(int itsSort, int itsSize) {
            sort = itsSort;
            size = itsSize;
            for (int i = 0; i < cells.length; i++) {
                cells[i] = 0;
            }
        }

        void write(int i, int v) {
            set(cells, i, sort == BYTES ? (byte) v : sort == SHORTS ? (short) v : v);
        }

        int read(int i) {
            return at(cells, i);
        }

        /** Whether n places from i on lie in it; taken from the size, as a sum could wrap. */
        boolean spans(int i, int n) {
            return n >= 0 && i >= 0 && i <= size - n;
        }
    }
}

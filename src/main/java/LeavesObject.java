import java.util.Arrays;

/** Tea leaves file an objection: the program of ../shared/DOC.md, whose words its names follow. */
public final class LeavesObject {
    public static final int NONE = -1, BAD = -2, STATE = -3, FULL = -4;
    public static final long NO = Long.MIN_VALUE;

    private static final int NOT_SO = -5, FAULTY = -10;
    private static final int NOTHING = -11, CAST = -12, PLACE = -13, SIZE = -14;

    private static final int ALL_CELLS = 4095, ROW_0 = 15, ROW_2 = 15 << 8;
    private static final int COLUMN_0 = 0x111, COLUMN_1 = 0x222, COLUMN_2 = 0x444, COLUMN_3 = 0x888;
    private static final int CELLS = 12, CUPS = 5, KINDS = 7, SAYINGS = 4, PARTS = 4;
    private static final int DIGITS = 10, NIGHTS_AT_ONCE = 60, MOST = 9999, MOST_MOOD = 9, MOST_TIMES = 60;
    private static final int A_NIGHT = 5;

    private static final int CUP = 0, SHY = 1, STUBBORN = 2, PLAIN = 3, BLANK = 4, WISE = 5, TOLD = 6;
    private static final int[] KIND_ABOVE = {-1, CUP, CUP, CUP, SHY, STUBBORN, PLAIN};

    private static final int SIGNS = 128, TEXT_MOST = 100, INNS = 6, CLAUSES = 10, WITHIN = 4;
    private static final int NOT = -1, AND = -2, OR = -3;

    private static final int TAPES = 6, ITEMS = 60, SO_FAR = 100;
    private static final int BYTES = 0, SHORTS = 1, INTS = 2, LONGS = 3, BOOLEANS = 4;

    private static final int LIES = 0, SAYS = 1, TELLS = 2, ACTS = 3;
    private static final int TRACE_KEPT = 20, ACT_DEPTH = 40;
    /** By KIND, then by act: the number of the body; 0: the KIND has none of its own. */
    private static final int[] BODIES = {
        10, 11, 12,
        0, 20, 0,
        30, 0, 0,
        0, 0, 40,
        50, 51, 0,
        0, 0, 60,
        71, 70, 0,
    };

    private static final int ROWS_OF_SAYINGS = 341, LONGEST_ROW = 4, NEAR_ROW = 3;
    /** The place in Tries where the rows with so many SAYINGS begin; the last is the end. */
    private static final int[] ROWS_BEGIN = {0, 1, 5, 21, 85, ROWS_OF_SAYINGS};

    private final Table now = new Table();
    private final Table kept = new Table();
    private final Table evenings = new Table();
    private boolean isKept;
    private final Text text = new Text();
    private final Inn[] inns = new Inn[INNS];
    private int innCount;
    private final Inn without = new Inn();
    private final Cup trial = new Cup();
    private final Tries tries = new Tries();
    private final Acts acts = new Acts();
    private final Tape[] tapes = new Tape[TAPES];

    public LeavesObject() {
        for (int i = 0; i < inns.length; i++) {
            inns[i] = new Inn();
        }
        for (int i = 0; i < tapes.length; i++) {
            tapes[i] = new Tape();
        }
    }

    // ---- cups, inns

    public int cup(int kind, int v, int leaves) {
        if (kind < 0 || kind >= KINDS) {
            return NONE;
        }
        if (!isDigit(v) || !areLeaves(leaves)) {
            return BAD;
        }
        Cup fresh = now.slotAt(now.cupCount);
        if (fresh == null) {
            return FULL;
        }
        fresh.become(now.cupCount, kind, v, leaves);
        now.cupCount++;
        return fresh.number;
    }

    public int of(int cup, int what) {
        Cup one = now.cupAt(cup);
        if (one == null) {
            return NONE;
        }
        if (isSaying(what - 10)) {
            return innThatHolds().willOf(one, what - 10, now.night);
        }
        if (isSaying(what - 20)) {
            return one.leavesDone(what - 20, now.night);
        }
        switch (what) {
            case 0:
                return one.kind;
            case 1:
                return one.v;
            case 2:
                return one.leaves;
            case 3:
                return one.mood;
            case 4:
                return one.refused;
            default:
                return NONE;
        }
    }

    public int set(int cup, int what, int n) {
        Cup one = now.cupAt(cup);
        if (one == null || what < 0 || what > 1) {
            return NONE;
        }
        if (what == 0 ? !areLeaves(n) : !isDigit(n)) {
            return BAD;
        }
        int before = what == 0 ? one.leaves : one.mood;
        if (what == 0) {
            one.leaves = n;
        } else {
            one.mood = n;
        }
        return before;
    }

    public int line(int cup, int part, int n) {
        Cup one = now.cupAt(cup);
        if (one == null || part < 0 || part >= PARTS) {
            return NONE;
        }
        if (!isDigit(n)) {
            return BAD;
        }
        if (one.kind != TOLD) {
            return STATE;
        }
        int before = one.lineAt(part);
        one.setLine(part, n);
        return before;
    }

    public int feed(int sign) {
        if (sign < 0 || sign >= SIGNS) {
            return BAD;
        }
        return text.takes(sign) ? text.size : FULL;
    }

    public int inn() {
        if (innCount >= inns.length) {
            return FULL;
        }
        Inn fresh = inns[innCount];
        if (fresh == null) {
            return FULL;
        }
        boolean isInn = text.readInto(fresh);
        text.size = 0;
        if (!isInn) {
            return FAULTY - text.place;
        }
        now.held = innCount;
        innCount++;
        return now.held;
    }

    public int told(int what) {
        switch (what) {
            case 0:
                return now.night;
            case 1:
                return innThatHolds().rise;
            case 2:
                return innThatHolds().fall;
            case 3:
                return now.joined(-1);
            case 4:
                return now.twice();
            case 5:
                return now.mirrored();
            case 6:
                return now.alike();
            default:
                return NONE;
        }
    }

    // ---- sayings, nights

    public int say(int cup, int saying) {
        Cup one = now.cupAt(cup);
        if (one == null || !isSaying(saying)) {
            return NONE;
        }
        if (one.refused >= MOST) {
            return STATE;
        }
        return one.hears(saying, now.night, innThatHolds()) ? 1 : 0;
    }

    public int pass(int n) {
        if (n < 0 || n > NIGHTS_AT_ONCE) {
            return BAD;
        }
        if (now.night + n > MOST) {
            return STATE;
        }
        for (int i = 0; i < n; i++) {
            now.nightGoes();
        }
        return now.night;
    }

    public int after(int cup, int saying, int what) {
        Cup one = now.cupAt(cup);
        if (one == null || !isSaying(saying) || what < 0 || what > 2) {
            return NONE;
        }
        boolean isDone = wouldHear(one, saying);
        if (what == 0) {
            return trial.leaves;
        }
        if (what == 1) {
            return trial.mood;
        }
        return isDone ? 0 : 1;
    }

    // ---- shapes

    public int comes(int cup, int shape, int k) {
        Cup one = now.cupAt(cup);
        if (one == null || k < -1 || k >= LONGEST_ROW) {
            return NONE;
        }
        if (!areLeaves(shape)) {
            return BAD;
        }
        tries.grow(one, LONGEST_ROW, now.night, innThatHolds());
        int row = tries.firstWith(shape);
        if (row < 0) {
            return NOT_SO;
        }
        return k < 0 ? tries.lengthOf(row) : tries.sayingOf(row, k);
    }

    public int near(int cup, int shape, int k) {
        Cup one = now.cupAt(cup);
        if (one == null || k < -1 || k >= NEAR_ROW) {
            return NONE;
        }
        if (!areLeaves(shape)) {
            return BAD;
        }
        tries.grow(one, NEAR_ROW, now.night, innThatHolds());
        int row = tries.nearest(shape, NEAR_ROW);
        return k < 0 ? unlike(tries.leavesAfter(row), shape) : tries.sayingOf(row, k);
    }

    public int fullest(int cup) {
        Cup one = now.cupAt(cup);
        if (one == null) {
            return NONE;
        }
        tries.grow(one, LONGEST_ROW, now.night, innThatHolds());
        return tries.mostLeaves(LONGEST_ROW);
    }

    public int firstNo(int cup, int saying) {
        Cup one = now.cupAt(cup);
        if (one == null || !isSaying(saying)) {
            return NONE;
        }
        trial.becomeLike(one);
        for (int time = 1; time <= MOST_TIMES; time++) {
            if (!trial.hears(saying, now.night, innThatHolds())) {
                return time;
            }
        }
        return NOT_SO;
    }

    public int show(int shape) {
        if (!areLeaves(shape)) {
            return BAD;
        }
        int best = NOT_SO;
        for (int set = 0; set < 1 << now.cupCount; set++) {
            boolean isThere = (now.joinedOf(set) & shape) == shape;
            if (isThere && (best < 0 || Integer.bitCount(set) < Integer.bitCount(best))) {
                best = set;
            }
        }
        return best;
    }

    public int next(int shape) {
        if (!areLeaves(shape)) {
            return BAD;
        }
        int best = NOT_SO;
        int fewest = CELLS + 1;
        for (int c = 0; c < now.cupCount; c++) {
            Cup one = now.cupAt(c);
            int others = now.joined(c);
            for (int saying = 0; one != null && saying < SAYINGS; saying++) {
                wouldHear(one, saying);
                int cells = unlike(others | trial.leaves, shape);
                if (cells < fewest) {
                    fewest = cells;
                    best = 10 * c + saying;
                }
            }
        }
        return best;
    }

    // ---- seen, odds

    public int see(int saying, int leaves) {
        if (saying == -1) {
            now.seen.size = 0;
            return 0;
        }
        if (!isSaying(saying)) {
            return NONE;
        }
        if (!areLeaves(leaves)) {
            return BAD;
        }
        return now.seen.takes(saying, leaves) ? now.seen.size : FULL;
    }

    public int moods(int cup, int what) {
        return thatFit(now.cupAt(cup), what, true);
    }

    public int can(int cup, int what) {
        return thatFit(now.cupAt(cup), what, false);
    }

    public long odds(int cup, int q, int part) {
        Cup one = now.cupAt(cup);
        if (one == null || q < 0 || q > CELLS || !isPart(part)) {
            return NO;
        }
        int enough = 0;
        for (int saying = 0; saying < SAYINGS; saying++) {
            wouldHear(one, saying);
            if (Integer.bitCount(trial.leaves) >= q) {
                enough++;
            }
        }
        return partOfFraction(enough, SAYINGS, part);
    }

    public long mean(int part) {
        if (!isPart(part) || now.cupCount <= 0) {
            return NO;
        }
        int all = 0;
        for (int c = 0; c < now.cupCount; c++) {
            Cup one = now.cupAt(c);
            if (one != null) {
                all += Integer.bitCount(one.leaves);
            }
        }
        return partOfFraction(all, now.cupCount, part);
    }

    // ---- evenings, books

    public int evening(int cup, int saying) {
        if (cup == -1) {
            now.evening.size = 0;
            return 0;
        }
        if (cup != A_NIGHT && (now.cupAt(cup) == null || !isSaying(saying))) {
            return NONE;
        }
        return now.evening.takes(cup, saying) ? now.evening.size : FULL;
    }

    public int ends(int what) {
        if (what < 0 || what > 1) {
            return NONE;
        }
        evenings.becomeLike(now);
        int refusedMore = 0;
        for (int i = 0; i < now.evening.size; i++) {
            int cup = now.evening.firstAt(i);
            Cup one = evenings.cupAt(cup);
            if (cup == A_NIGHT) {
                evenings.nightGoes();
            } else if (one != null && !one.hears(now.evening.secondAt(i), evenings.night, innThatHolds())) {
                refusedMore++;
            }
        }
        return what == 0 ? evenings.joined(-1) : refusedMore;
    }

    public int book(int cup, int leaves) {
        if (cup == -1) {
            now.book.size = 0;
            return 0;
        }
        if (now.cupAt(cup) == null) {
            return NONE;
        }
        if (!areLeaves(leaves)) {
            return BAD;
        }
        return now.book.takes(cup, leaves) ? now.book.size : FULL;
    }

    public int looked() {
        for (int i = 0; i < now.book.size; i++) {
            Cup one = now.cupAt(now.book.firstAt(i));
            if (one != null && one.leaves != now.book.secondAt(i)) {
                return i;
            }
        }
        return NOT_SO;
    }

    // ---- judging, the image, acts, tapes

    public int judge(int tape, int i) {
        Tape row = tapeAt(tape);
        if (row == null) {
            return NONE;
        }
        if (row.holds() && row.sort != SHORTS) {
            return CAST;
        }
        for (int c = 0; c < now.cupCount; c++) {
            Cup one = now.cupAt(c);
            if (one == null || !row.reaches(i, c + 1)) {
                return SO_FAR + c;
            }
            if (row.itemAt(i + c) != one.leaves) {
                return c;
            }
        }
        return NOT_SO;
    }

    public int image() {
        kept.becomeLike(now);
        isKept = true;
        return now.cupCount;
    }

    public int undo() {
        if (!isKept) {
            return STATE;
        }
        now.becomeLike(kept);
        return now.cupCount;
    }

    public int act(int cup, int act, int x) {
        acts.ran = 0;
        Cup one = now.cupAt(cup);
        if (one == null || act < 0 || act >= ACTS) {
            return 0;
        }
        return acts.runFrom(one.kind, one, act, x, 0);
    }

    public int trace(int i) {
        return acts.keptAt(i);
    }

    public int taken(int cup, int k) {
        if (k < 0 || k >= KINDS) {
            return BAD;
        }
        Cup one = now.cupAt(cup);
        if (one == null) {
            return NOTHING;
        }
        return one.isUnder(k) ? one.kind : CAST;
    }

    public int count(int what) {
        switch (what) {
            case 0:
                return now.cupCount;
            case 1:
                return innCount;
            case 2:
                return now.seen.size;
            case 3:
                return now.evening.size;
            case 4:
                return now.book.size;
            case 5:
                return text.size;
            case 6:
                return acts.ran;
            default:
                return BAD;
        }
    }

    public int tape(int tape, int sort, int n) {
        Tape row = tapeAt(tape);
        if (row == null) {
            return NONE;
        }
        if (sort == -1) {
            row.become(sort, 0);
            return 1;
        }
        if (sort < BYTES || sort > BOOLEANS || n > ITEMS) {
            return BAD;
        }
        if (n < 0) {
            return SIZE;
        }
        row.become(sort, n);
        return 1;
    }

    public int item(int tape, int i, long v) {
        Tape row = tapeAt(tape);
        if (row == null) {
            return NONE;
        }
        if (!row.holds()) {
            return NOTHING;
        }
        if (!row.reaches(i, 1)) {
            return PLACE;
        }
        row.setItem(i, v);
        return 1;
    }

    public long read(int tape, int i) {
        Tape row = tapeAt(tape);
        if (row == null || !row.reaches(i, 1)) {
            return NO;
        }
        return row.itemAt(i);
    }

    public int shift(int tape, int i, int other, int j, int n) {
        Tape from = tapeAt(tape);
        Tape to = tapeAt(other);
        if (from == null || to == null) {
            return NONE;
        }
        if (!from.holds() || !to.holds()) {
            return NOTHING;
        }
        if (from.sort != to.sort) {
            return CAST;
        }
        if (!from.reaches(i, n) || !to.reaches(j, n)) {
            return PLACE;
        }
        System.arraycopy(from.items, i, to.items, j, n);
        return n;
    }

    // ---- what several calls share

    private static boolean areLeaves(int n) {
        return n >= 0 && n <= ALL_CELLS;
    }

    private static boolean isDigit(int n) {
        return n >= 0 && n < DIGITS;
    }

    private static boolean isSaying(int n) {
        return n >= 0 && n < SAYINGS;
    }

    private static boolean isPart(int part) {
        return part == 0 || part == 1;
    }

    private static int unlike(int leaves, int shape) {
        return Integer.bitCount(leaves ^ shape);
    }

    private static long partOfFraction(int above, int below, int part) {
        int divisor = Math.max(greatestDivisor(above, below), 1);
        return (part == 0 ? above : below) / divisor;
    }

    private static int greatestDivisor(int a, int b) {
        int greatest = 1;
        for (int d = 2; d <= b; d++) {
            if (a % d == 0 && b % d == 0) {
                greatest = d;
            }
        }
        return greatest;
    }

    private Inn innThatHolds() {
        if (now.held < 0 || now.held >= inns.length) {
            return without;
        }
        Inn inn = inns[now.held];
        return inn == null ? without : inn;
    }

    private Tape tapeAt(int tape) {
        return tape >= 0 && tape < tapes.length ? tapes[tape] : null;
    }

    /** The CUP stays as it is; the trial is it behind the SAYING. */
    private boolean wouldHear(Cup one, int saying) {
        trial.becomeLike(one);
        return trial.hears(saying, now.night, innThatHolds());
    }

    private int thatFit(Cup one, int what, boolean asMood) {
        if (one == null || what < 0 || what > 1) {
            return NONE;
        }
        int many = 0;
        int least = NOT_SO;
        for (int n = DIGITS - 1; n >= 0; n--) {
            if (fitsSeen(one, n, asMood)) {
                many++;
                least = n;
            }
        }
        return what == 0 ? many : least;
    }

    /** Each SAYING that is SEEN is SAID alone: none of the others is ahead of it. */
    private boolean fitsSeen(Cup one, int n, boolean asMood) {
        for (int i = 0; i < now.seen.size; i++) {
            trial.becomeLike(one);
            if (asMood) {
                trial.mood = n;
            } else {
                trial.v = n;
            }
            trial.hears(now.seen.firstAt(i), now.night, innThatHolds());
            if (trial.leaves != now.seen.secondAt(i)) {
                return false;
            }
        }
        return true;
    }

    /** What is done with LEAVES, as bits. */
    private static final class Leaves {
        static int right(int leaves) {
            return (leaves & ~COLUMN_3) << 1;
        }

        static int left(int leaves) {
            return (leaves & ~COLUMN_0) >> 1;
        }

        static int down(int leaves) {
            return leaves << 4 & ALL_CELLS;
        }

        static int up(int leaves) {
            return leaves >> 4;
        }

        static int thinned(int leaves) {
            return leaves & (right(leaves) | left(leaves) | down(leaves) | up(leaves));
        }

        static int filled(int leaves) {
            int right = right(leaves);
            int left = left(leaves);
            int down = down(leaves);
            int up = up(leaves);
            return leaves | right & left | down & up | (right | left) & (down | up);
        }

        static int mirrored(int leaves) {
            return (leaves & COLUMN_0) << 3 | (leaves & COLUMN_1) << 1
                | (leaves & COLUMN_2) >> 1 | (leaves & COLUMN_3) >> 3;
        }

        static int forth(int saying, int leaves) {
            switch (saying) {
                case 0:
                    return leaves | right(leaves);
                case 1:
                    return thinned(leaves);
                case 2:
                    return right(leaves) | (leaves & COLUMN_3) >> 3;
                case 3:
                    return down(leaves) | (leaves & ROW_2) >> 8;
                default:
                    return leaves;
            }
        }

        static int back(int saying, int leaves) {
            switch (saying) {
                case 0:
                    return leaves | left(leaves);
                case 1:
                    return filled(leaves);
                case 2:
                    return left(leaves) | (leaves & COLUMN_0) << 3;
                case 3:
                    return up(leaves) | (leaves & ROW_0) << 8;
                default:
                    return leaves;
            }
        }
    }

    /** A CUP with all that is its own. */
    private static final class Cup {
        private static final int MOST_OF_SHY = 6;

        int number;
        int kind;
        int v;
        int leaves;
        int mood;
        int refused;
        final int[] lines = new int[PARTS];

        void become(int itsNumber, int itsKind, int itsV, int itsLeaves) {
            number = itsNumber;
            kind = itsKind;
            v = itsV;
            leaves = itsLeaves;
            mood = 0;
            refused = 0;
            Arrays.fill(lines, 0);
        }

        void becomeLike(Cup other) {
            number = other.number;
            kind = other.kind;
            v = other.v;
            leaves = other.leaves;
            mood = other.mood;
            refused = other.refused;
            System.arraycopy(other.lines, 0, lines, 0, PARTS);
        }

        int lineAt(int part) {
            return part >= 0 && part < lines.length ? lines[part] : 0;
        }

        void setLine(int part, int n) {
            if (part >= 0 && part < lines.length) {
                lines[part] = n;
            }
        }

        boolean isUnder(int k) {
            int one = kind;
            for (int i = 0; i < KINDS && one >= 0 && one < KIND_ABOVE.length; i++) {
                if (one == k) {
                    return true;
                }
                one = KIND_ABOVE[one];
            }
            return false;
        }

        boolean hears(int saying, int night, Inn inn) {
            if (inn.willOf(this, saying, night) < mood) {
                refused++;
                mood = Math.min(mood + inn.rise, MOST_MOOD);
                return false;
            }
            leaves = leavesDone(saying, night);
            mood = Math.max(mood - inn.fall, 0);
            return true;
        }

        int leavesDone(int saying, int night) {
            int once = Leaves.forth(saying, leaves);
            int shily = Integer.bitCount(leaves) > MOST_OF_SHY ? leaves : once;
            switch (kind) {
                case SHY:
                    return shily;
                case STUBBORN:
                    return Leaves.back(saying, leaves);
                case PLAIN:
                    return Leaves.forth(saying, once);
                case BLANK:
                    return shily & ~ROW_2;
                case WISE:
                    return night % 2 == 0 ? once : Leaves.back(saying, leaves);
                case TOLD:
                    return Leaves.forth(saying, once) | lineAt(night % PARTS);
                default:
                    return once;
            }
        }
    }

    /** Rows of two numbers, told by hand. */
    private static final class Rows {
        private final int[] firsts;
        private final int[] seconds;
        int size;

        Rows(int most) {
            int length = Math.max(most, 0);
            firsts = new int[length];
            seconds = new int[length];
        }

        boolean takes(int first, int second) {
            if (size < 0 || size >= firsts.length || size >= seconds.length) {
                return false;
            }
            firsts[size] = first;
            seconds[size] = second;
            size++;
            return true;
        }

        int firstAt(int i) {
            return i >= 0 && i < firsts.length ? firsts[i] : 0;
        }

        int secondAt(int i) {
            return i >= 0 && i < seconds.length ? seconds[i] : 0;
        }

        void becomeLike(Rows other) {
            size = 0;
            for (int i = 0; i < other.size; i++) {
                takes(other.firstAt(i), other.secondAt(i));
            }
        }
    }

    /** All that THE IMAGE takes: so the image is a second one of these. */
    private static final class Table {
        private final Cup[] slots = new Cup[CUPS];
        int cupCount;
        int night;
        int held = -1;
        final Rows seen = new Rows(5);
        final Rows evening = new Rows(10);
        final Rows book = new Rows(8);

        Table() {
            for (int i = 0; i < slots.length; i++) {
                slots[i] = new Cup();
            }
        }

        /** A place for a CUP, whether there is one in it or not. */
        Cup slotAt(int i) {
            return i >= 0 && i < slots.length ? slots[i] : null;
        }

        Cup cupAt(int i) {
            return i < cupCount ? slotAt(i) : null;
        }

        int leavesOf(int i) {
            Cup one = cupAt(i);
            return one == null ? 0 : one.leaves;
        }

        void becomeLike(Table other) {
            for (int i = 0; i < CUPS; i++) {
                Cup mine = slotAt(i);
                Cup its = other.slotAt(i);
                if (mine != null && its != null) {
                    mine.becomeLike(its);
                }
            }
            cupCount = other.cupCount;
            night = other.night;
            held = other.held;
            seen.becomeLike(other.seen);
            evening.becomeLike(other.evening);
            book.becomeLike(other.book);
        }

        void nightGoes() {
            for (int i = 0; i < cupCount; i++) {
                Cup one = cupAt(i);
                if (one != null) {
                    one.mood = Math.max(one.mood - 1, 0);
                }
            }
            night++;
        }

        int joined(int butFor) {
            int joined = 0;
            for (int i = 0; i < cupCount; i++) {
                if (i != butFor) {
                    joined |= leavesOf(i);
                }
            }
            return joined;
        }

        int joinedOf(int set) {
            int joined = 0;
            for (int i = 0; i < cupCount; i++) {
                if ((set >> i & 1) == 1) {
                    joined |= leavesOf(i);
                }
            }
            return joined;
        }

        int twice() {
            int once = 0;
            int twice = 0;
            for (int i = 0; i < cupCount; i++) {
                twice |= once & leavesOf(i);
                once |= leavesOf(i);
            }
            return twice;
        }

        int mirrored() {
            int mirrored = 0;
            for (int i = 0; i < cupCount; i++) {
                if (Leaves.mirrored(leavesOf(i)) == leavesOf(i)) {
                    mirrored |= 1 << i;
                }
            }
            return mirrored;
        }

        int alike() {
            int best = NOT_SO;
            int fewest = CELLS + 1;
            for (int i = 0; i < cupCount; i++) {
                for (int j = i + 1; j < cupCount; j++) {
                    int cells = unlike(leavesOf(i), leavesOf(j));
                    if (cells < fewest) {
                        fewest = cells;
                        best = 10 * i + j;
                    }
                }
            }
            return best;
        }
    }

    /** An INN as it was read: each E of a will or balk as tests, with what joins them behind them. */
    private static final class Inn {
        private static final int WILL_AT_FIRST = 5, RISE_WITHOUT = 2, FALL_WITHOUT = 1;
        private static final int NUMBERS = 100, SIGNS_BETWEEN = 3, NUMBERS_ASKED = 6;

        int rise = RISE_WITHOUT;
        int fall = FALL_WITHOUT;
        private int changes;
        private final int[] amounts = new int[CLAUSES];
        private final int[] ends = new int[CLAUSES];
        private int steps;
        private final int[] code = new int[TEXT_MOST];
        private final int[] asked = new int[NUMBERS_ASKED];

        void becomeEmpty() {
            rise = RISE_WITHOUT;
            fall = FALL_WITHOUT;
            changes = 0;
            steps = 0;
        }

        void addStep(int step) {
            if (steps >= 0 && steps < code.length) {
                code[steps] = step;
                steps++;
            }
        }

        void addTest(int letter, int between, int number) {
            addStep((letter * SIGNS_BETWEEN + between) * NUMBERS + number);
        }

        void endChange(int amount) {
            if (changes >= 0 && changes < amounts.length && changes < ends.length) {
                amounts[changes] = amount;
                ends[changes] = steps;
                changes++;
            }
        }

        int willOf(Cup cup, int saying, int night) {
            ask(cup, saying, night);
            int will = WILL_AT_FIRST;
            int from = 0;
            for (int i = 0; i < changes && i < amounts.length && i < ends.length; i++) {
                if (holds(from, ends[i])) {
                    will += amounts[i];
                }
                from = ends[i];
            }
            return Math.max(will, 0);
        }

        /** In the order of Text.LETTERS. */
        private void ask(Cup cup, int saying, int night) {
            asked[0] = cup.number;
            asked[1] = saying;
            asked[2] = cup.kind;
            asked[3] = cup.v;
            asked[4] = Integer.bitCount(cup.leaves);
            asked[5] = night % DIGITS;
        }

        /** The bits of one int are the stack: nesting is so low that it never holds more than twelve. */
        private boolean holds(int from, int to) {
            int stack = 0;
            for (int i = Math.max(from, 0); i < to && i < code.length; i++) {
                int top = stack & 1;
                switch (code[i]) {
                    case NOT:
                        stack ^= 1;
                        break;
                    case AND:
                        stack = stack >> 1 & (top | ~1);
                        break;
                    case OR:
                        stack = stack >> 1 | top;
                        break;
                    default:
                        stack = stack << 1 | (testHolds(code[i]) ? 1 : 0);
                        break;
                }
            }
            return (stack & 1) == 1;
        }

        private boolean testHolds(int test) {
            int letter = test / NUMBERS / SIGNS_BETWEEN;
            if (letter < 0 || letter >= asked.length) {
                return false;
            }
            int number = test % NUMBERS;
            switch (test / NUMBERS % SIGNS_BETWEEN) {
                case 0:
                    return asked[letter] < number;
                case 1:
                    return asked[letter] == number;
                default:
                    return asked[letter] > number;
            }
        }
    }

    /** THE TEXT, and how it is read: where reading ends without an INN, the place is the FAULT. */
    private static final class Text {
        private static final String LETTERS = "cwkvln", BETWEEN = "<=>";

        private final int[] signs = new int[TEXT_MOST];
        int size;
        int place;

        boolean takes(int sign) {
            if (size < 0 || size >= signs.length) {
                return false;
            }
            signs[size] = sign;
            size++;
            return true;
        }

        boolean readInto(Inn inn) {
            place = 0;
            inn.becomeEmpty();
            for (int i = 0; i < CLAUSES; i++) {
                if (!readClause(inn)) {
                    return false;
                }
                if (sign() != ';' || i == CLAUSES - 1) {
                    return place == size;
                }
                place++;
            }
            return false;
        }

        /** -1 behind the end: no sign is that. */
        private int sign() {
            return place >= 0 && place < size && place < signs.length ? signs[place] : -1;
        }

        private boolean readClause(Inn inn) {
            int first = sign();
            if (!readWord(wordWith(first)) || !readWord(" ")) {
                return false;
            }
            int n = readNumber();
            if (n < 0) {
                return false;
            }
            if (first == 'r') {
                inn.rise = n;
                return true;
            }
            if (first == 'f') {
                inn.fall = n;
                return true;
            }
            if (!readWord(" ") || !readEither(inn, 0)) {
                return false;
            }
            inn.endChange(first == 'w' ? n : -n);
            return true;
        }

        /** Where no word begins so, any will do: its first sign is not there, either. */
        private static String wordWith(int first) {
            switch (first) {
                case 'b':
                    return "balk";
                case 'r':
                    return "rise";
                case 'f':
                    return "fall";
                default:
                    return "will";
            }
        }

        private boolean readWord(String word) {
            for (int i = 0; i < word.length(); i++) {
                if (sign() != word.charAt(i)) {
                    return false;
                }
                place++;
            }
            return true;
        }

        private int readNumber() {
            int n = -1;
            for (int i = 0; i < 2; i++) {
                int digit = sign() - '0';
                if (!isDigit(digit)) {
                    return n;
                }
                n = Math.max(n, 0) * 10 + digit;
                place++;
            }
            return n;
        }

        private boolean readEither(Inn inn, int depth) {
            if (!readBoth(inn, depth)) {
                return false;
            }
            for (int i = 0; i < TEXT_MOST && sign() == '|'; i++) {
                place++;
                if (!readBoth(inn, depth)) {
                    return false;
                }
                inn.addStep(OR);
            }
            return true;
        }

        private boolean readBoth(Inn inn, int depth) {
            if (!readOne(inn, depth)) {
                return false;
            }
            for (int i = 0; i < TEXT_MOST && sign() == '&'; i++) {
                place++;
                if (!readOne(inn, depth)) {
                    return false;
                }
                inn.addStep(AND);
            }
            return true;
        }

        private boolean readOne(Inn inn, int depth) {
            int first = sign();
            if ((first == '!' || first == '(') && depth >= WITHIN) {
                return false;
            }
            if (first == '(') {
                place++;
                return readEither(inn, depth + 1) && readWord(")");
            }
            if (first == '!') {
                place++;
                if (!readOne(inn, depth + 1)) {
                    return false;
                }
                inn.addStep(NOT);
                return true;
            }
            int letter = readOneOf(LETTERS);
            int between = letter < 0 ? -1 : readOneOf(BETWEEN);
            int number = between < 0 ? -1 : readNumber();
            if (number < 0) {
                return false;
            }
            inn.addTest(letter, between, number);
            return true;
        }

        private int readOneOf(String choice) {
            for (int i = 0; i < choice.length(); i++) {
                if (sign() == choice.charAt(i)) {
                    place++;
                    return i;
                }
            }
            return -1;
        }
    }

    /**
     * Where a CUP would be after each row of SAYINGS. The row at j with one SAYING more stands
     * at 4j + 1 and that SAYING: so shorter rows come first, and rows alike long in their order.
     */
    private static final class Tries {
        private final int[] leaves = new int[ROWS_OF_SAYINGS];
        private final int[] moods = new int[ROWS_OF_SAYINGS];
        private final Cup cup = new Cup();

        void grow(Cup from, int longest, int night, Inn inn) {
            cup.becomeLike(from);
            leaves[0] = from.leaves;
            moods[0] = from.mood;
            int end = endOf(longest);
            for (int j = 1; j < end; j++) {
                int parent = (j - 1) / SAYINGS;
                cup.leaves = leaves[parent];
                cup.mood = moods[parent];
                cup.hears((j - 1) % SAYINGS, night, inn);
                leaves[j] = cup.leaves;
                moods[j] = cup.mood;
            }
        }

        private static int beginOf(int length) {
            return length >= 0 && length < ROWS_BEGIN.length ? ROWS_BEGIN[length] : ROWS_OF_SAYINGS;
        }

        private static int endOf(int length) {
            return Math.min(beginOf(length + 1), ROWS_OF_SAYINGS);
        }

        int leavesAfter(int row) {
            return row >= 0 && row < leaves.length ? leaves[row] : 0;
        }

        int firstWith(int shape) {
            for (int j = 0; j < leaves.length; j++) {
                if (leaves[j] == shape) {
                    return j;
                }
            }
            return -1;
        }

        int nearest(int shape, int length) {
            int best = beginOf(length);
            for (int j = best; j < endOf(length); j++) {
                if (unlike(leavesAfter(j), shape) < unlike(leavesAfter(best), shape)) {
                    best = j;
                }
            }
            return best;
        }

        int mostLeaves(int length) {
            int most = 0;
            for (int j = beginOf(length); j < endOf(length); j++) {
                most = Math.max(most, Integer.bitCount(leavesAfter(j)));
            }
            return most;
        }

        int lengthOf(int row) {
            int length = 0;
            while (length < LONGEST_ROW && row >= beginOf(length + 1)) {
                length++;
            }
            return length;
        }

        int sayingOf(int row, int k) {
            int length = lengthOf(row);
            if (k < 0 || k >= length) {
                return NOT_SO;
            }
            int upTo = row;
            for (int i = length - 1; i > k; i--) {
                upTo = (upTo - 1) / SAYINGS;
            }
            return (upTo - 1) % SAYINGS;
        }
    }

    /** The BODIES of acts, and THE TRACE. */
    private static final class Acts {
        private final int[] first = new int[TRACE_KEPT];
        int ran;

        int keptAt(int i) {
            return i >= 0 && i < ran && i < first.length ? first[i] : NONE;
        }

        private void begin(int body) {
            if (ran >= 0 && ran < first.length) {
                first[ran] = body;
            }
            ran++;
        }

        private static int bodyOf(int kind, int act) {
            int place = kind * ACTS + act;
            return place >= 0 && place < BODIES.length ? BODIES[place] : 0;
        }

        private static int kindWithBody(int kind, int act) {
            int one = kind;
            for (int i = 0; i < KINDS && one > CUP && one < KIND_ABOVE.length; i++) {
                if (bodyOf(one, act) != 0) {
                    return one;
                }
                one = KIND_ABOVE[one];
            }
            return CUP;
        }

        private int runAbove(int kind, Cup cup, int act, int x, int depth) {
            int above = kind >= 0 && kind < KIND_ABOVE.length ? KIND_ABOVE[kind] : CUP;
            return runFrom(above, cup, act, x, depth);
        }

        private int runFrom(int kind, Cup cup, int act, int x, int depth) {
            if (depth >= ACT_DEPTH) {
                return 0;
            }
            int deeper = depth + 1;
            int one = kindWithBody(kind, act);
            int body = bodyOf(one, act);
            begin(body);
            switch (body) {
                case 10:
                    return x + cup.number;
                case 11:
                    return runFrom(cup.kind, cup, LIES, x, deeper) - cup.v;
                case 12:
                    return runFrom(cup.kind, cup, SAYS, x, deeper) * 2;
                case 20:
                    return runAbove(one, cup, SAYS, x, deeper) ^ 6;
                case 30:
                    return runAbove(one, cup, LIES, x * 3, deeper);
                case 40:
                    return runAbove(one, cup, TELLS, x, deeper) + runFrom(cup.kind, cup, SAYS, 1, deeper);
                case 50:
                    return -runAbove(one, cup, LIES, x, deeper);
                case 51:
                    return runAbove(one, cup, SAYS, x + 1, deeper);
                case 60:
                    return runAbove(one, cup, TELLS, x - cup.number, deeper);
                case 70:
                    return runAbove(one, cup, SAYS, x, deeper) + runAbove(one, cup, LIES, 2, deeper);
                case 71:
                    return runAbove(one, cup, LIES, x, deeper) ^ cup.v;
                default:
                    return 0;
            }
        }
    }

    /** A TAPE: its items are kept as longs, cut to what its sort holds. */
    private static final class Tape {
        int sort = -1;
        private int size;
        final long[] items = new long[ITEMS];

        boolean holds() {
            return sort >= 0;
        }

        void become(int itsSort, int itsSize) {
            sort = itsSort;
            size = itsSize;
            Arrays.fill(items, 0L);
        }

        /** Whether n items from i on are all there; asked so that nothing wraps. */
        boolean reaches(int i, int n) {
            return holds() && i >= 0 && n >= 0 && i <= size && n <= size - i;
        }

        long itemAt(int i) {
            return i >= 0 && i < items.length ? items[i] : 0;
        }

        void setItem(int i, long v) {
            if (i >= 0 && i < items.length) {
                items[i] = cut(v);
            }
        }

        private long cut(long v) {
            switch (sort) {
                case BYTES:
                    return (byte) v;
                case SHORTS:
                    return (short) v;
                case INTS:
                    return (int) v;
                case LONGS:
                    return v;
                default:
                    return v != 0 ? 1 : 0;
            }
        }
    }
}

/**
 * Mourners who stand by yards from a grave, and what of the dead one's debts each pays.
 *
 * <p>Everything that a call needs is made with the object: no call makes anything, so that a long
 * run stays as small as a short one.
 */
public final class FuneralDebts {
    public static final int NONE = -1, BAD = -2, STATE = -3, FULL = -4;
    public static final long NO = Long.MIN_VALUE;

    private static final int NOTHING = -11, CAST = -12, PLACE = -13, SIZE = -14;

    /** What stands for NONE where an answer may be below 0. */
    private static final int NO_SUCH = -10001;
    /** What is answered where a search finds nothing. */
    private static final int NOT_FOUND = -5;
    /** Added to how many shares were looked at, when the row told of them ends too early. */
    private static final int ROW_ENDED = 100;

    private static final int MOURNER = 0, COUSIN = 1, CREDITOR = 2, WEEPER = 3, VICAR = 4,
            BEARER = 5, TOLD = 6;
    /** The KIND above each KIND; -1 above the first. */
    private static final int[] ABOVE = {-1, MOURNER, MOURNER, MOURNER, COUSIN, CREDITOR, WEEPER};

    private static final int MOST_MOURNERS = 6, MOST_V = 9, MOST_LOVE = 20, MOST_DEBT = 999;
    private static final int YARDS = 10, LAST_YARD = 9, ROW_PARTS = 4, MOST_IN_ROW = 9;
    private static final int MOST_DAY = 9999, MOST_PAID = 999999, MOST_DAYS = 20;
    /** What is only asked goes on beyond the most that can be PAID. */
    private static final int PAID_WITHOUT_END = Integer.MAX_VALUE;
    private static final int MOST_TEXT = 100, MOST_SIGN = 127, MOST_PARISHES = 6;
    private static final int TAPES = 6, MOST_ITEMS = 60;
    private static final int MOST_SEEN = 5, MOST_PLANNED = 8, MOST_BOOKED = 8;

    private static final int PLAN_DAY = 0, PLAN_AWAY = 1, PLAN_BACK = 2, PLAN_NEAR = 3;

    /** How all is. */
    private final Scene now = new Scene();
    /** How all would be: what is asked is tried out here. */
    private final Scene later = new Scene();
    private final Scene image = new Scene();
    private boolean imageTaken;

    private final Reader reader = new Reader();
    private final Parish[] parishes = new Parish[MOST_PARISHES];
    private int parishCount;
    private final Parish noParish = new Parish();

    private final Reckoner reckoner = new Reckoner();
    private final Actor actor = new Actor();
    private final Tape[] tapes = new Tape[TAPES];

    public FuneralDebts() {
        for (int i = 0; i < parishes.length; i++) {
            parishes[i] = new Parish();
        }
        for (int i = 0; i < tapes.length; i++) {
            tapes[i] = new Tape();
        }
    }

    // ---- mourners, parishes

    public int mourner(int kind, int v, int love, int yard) {
        if (!within(kind, TOLD) || !within(yard, LAST_YARD)) {
            return NONE;
        }
        if (!within(v, MOST_V) || !within(love, MOST_LOVE)) {
            return BAD;
        }
        return now.size >= MOST_MOURNERS ? FULL : now.add(kind, v, love, yard);
    }

    public int of(int mourner, int what) {
        if (!now.has(mourner)) {
            return NO_SUCH;
        }
        switch (what) {
            case 0:
                return at(now.kinds, mourner);
            case 1:
                return at(now.vs, mourner);
            case 2:
                return at(now.loves, mourner);
            case 3:
                return at(now.yards, mourner);
            case 4:
                return now.isAway(mourner) ? 1 : 0;
            case 5:
                return at(now.paid, mourner);
            default:
                return reckonedOf(mourner, what);
        }
    }

    private int reckonedOf(int mourner, int what) {
        reckoner.look(now, held());
        if (what == 6) {
            return reckoner.share(now, mourner, now.debt, now.away);
        }
        if (what == 7) {
            return reckoner.best(now, mourner);
        }
        if (what >= 10 && what < 10 + YARDS) {
            return reckoner.rate(mourner, what - 10);
        }
        if (what >= 20 && what < 20 + YARDS) {
            return reckoner.worth(now, mourner, what - 20);
        }
        return NO_SUCH;
    }

    public int set(int mourner, int what, int n) {
        if (!now.has(mourner) || !within(what, 1)) {
            return NONE;
        }
        if (!within(n, what == 0 ? MOST_LOVE : LAST_YARD)) {
            return BAD;
        }
        int[] row = what == 0 ? now.loves : now.yards;
        int was = at(row, mourner);
        put(row, mourner, n);
        return was;
    }

    public int away(int mourner, boolean is) {
        if (!now.has(mourner)) {
            return NONE;
        }
        boolean was = now.isAway(mourner);
        now.send(mourner, is);
        return was ? 1 : 0;
    }

    public int debt(int n) {
        if (!within(n, MOST_DEBT)) {
            return BAD;
        }
        int was = now.debt;
        now.debt = n;
        return was;
    }

    public int row(int mourner, int part, int n) {
        if (!now.has(mourner) || !within(part, ROW_PARTS - 1)) {
            return NONE;
        }
        if (!within(n, MOST_IN_ROW)) {
            return BAD;
        }
        if (at(now.kinds, mourner) != TOLD) {
            return STATE;
        }
        int place = mourner * ROW_PARTS + part;
        int was = at(now.rows, place);
        put(now.rows, place, n);
        return was;
    }

    public int feed(int sign) {
        return within(sign, MOST_SIGN) ? reader.append(sign) : BAD;
    }

    public int parish() {
        Parish next = parishAt(parishCount);
        if (next == null) {
            return FULL;
        }
        if (!reader.readAll(next)) {
            return -10 - reader.place;
        }
        now.holds = parishCount;
        parishCount++;
        return now.holds;
    }

    public int told(int what) {
        switch (what) {
            case 0:
                return now.day;
            case 1:
                return held().fall;
            case 2:
                return now.debt;
            case 3:
                return now.away;
            case 4:
                return still();
            case 5:
                return gains();
            case 6:
                return owed(false);
            case 7:
                return owed(true);
            default:
                return NONE;
        }
    }

    /** Null where there is no such PARISH, nor room for one. */
    private Parish parishAt(int number) {
        return number >= 0 && number < parishes.length ? parishes[number] : null;
    }

    private Parish held() {
        Parish parish = parishAt(now.holds);
        return parish == null ? noParish : parish;
    }

    // ---- days

    public int pass(int n) {
        if (!within(n, MOST_DAYS)) {
            return BAD;
        }
        if (now.day + n > MOST_DAY) {
            return STATE;
        }
        for (int i = 0; i < n; i++) {
            reckoner.goDay(now, held(), MOST_PAID);
        }
        return now.day;
    }

    public int on(int n, int what) {
        boolean yard = now.has(what - 10);
        boolean paid = now.has(what - 20);
        if (!yard && !paid) {
            return NONE;
        }
        if (!within(n, MOST_DAYS)) {
            return BAD;
        }
        later.takeAfter(now);
        for (int i = 0; i < n; i++) {
            reckoner.goDay(later, held(), PAID_WITHOUT_END);
        }
        return yard ? at(later.yards, what - 10) : at(later.paid, what - 20);
    }

    public int kept(int mourner, int q) {
        if (!now.has(mourner)) {
            return NONE;
        }
        if (!within(q, MOST_DEBT)) {
            return BAD;
        }
        if (now.isAway(mourner)) {
            return NOT_FOUND;
        }
        reckoner.look(now, held());
        int found = NOT_FOUND;
        int fewest = MOST_MOURNERS + 1;
        for (int set = 0; set < 1 << MOST_MOURNERS; set++) {
            boolean ofOthers = set >> now.size == 0 && (set >> mourner & 1) == 0;
            if (ofOthers && Integer.bitCount(set) < fewest
                    && reckoner.share(now, mourner, now.debt, now.away | set) >= q) {
                found = set;
                fewest = Integer.bitCount(set);
            }
        }
        return found;
    }

    private int still() {
        later.takeAfter(now);
        for (int days = 0; days <= MOST_DAYS; days++) {
            if (reckoner.goDay(later, held(), PAID_WITHOUT_END) == 0) {
                return days;
            }
        }
        return NOT_FOUND;
    }

    private int gains() {
        later.takeAfter(now);
        reckoner.goDay(later, held(), PAID_WITHOUT_END);
        // Both are weighed on the same DAY, so the RATES of now serve for both.
        reckoner.look(now, held());
        int gaining = 0;
        for (int m = 0; m < now.size; m++) {
            if (!now.isAway(m) && reckoner.worth(later, m, at(later.yards, m))
                    > reckoner.worth(now, m, at(now.yards, m))) {
                gaining |= 1 << m;
            }
        }
        return gaining;
    }

    // ---- seen, odds

    public int see(int mourner, int share) {
        if (mourner == -1) {
            return now.seen.empty();
        }
        if (!now.has(mourner)) {
            return NONE;
        }
        if (!within(share, MOST_DEBT)) {
            return BAD;
        }
        return now.seen.add(mourner, share);
    }

    public int can(int mourner, int what) {
        if (!now.has(mourner) || !within(what, 1)) {
            return NONE;
        }
        later.takeAfter(now);
        int many = 0;
        int least = NOT_FOUND;
        for (int v = MOST_V; v >= 0; v--) {
            put(later.vs, mourner, v);
            reckoner.look(later, held());
            if (reckoner.fits(later, later.debt)) {
                many++;
                least = v;
            }
        }
        return what == 0 ? many : least;
    }

    private int owed(boolean leastAsked) {
        reckoner.look(now, held());
        int many = 0;
        int least = NOT_FOUND;
        for (int debt = MOST_DEBT; debt >= 0; debt--) {
            if (reckoner.fits(now, debt)) {
                many++;
                least = debt;
            }
        }
        return leastAsked ? least : many;
    }

    public long odds(int mourner, int part) {
        if (!now.has(mourner) || !within(part, 1) || now.isAway(mourner)) {
            return NO;
        }
        reckoner.look(now, held());
        int share = reckoner.share(now, mourner, now.debt, now.away);
        int others = 0;
        int dearer = 0;
        for (int m = 0; m < now.size; m++) {
            if (m != mourner && !now.isAway(m)) {
                others++;
                int then = reckoner.share(now, mourner, now.debt, now.away | 1 << m);
                dearer += then > share ? 1 : 0;
            }
        }
        return fraction(dearer, others, part);
    }

    public long mean(int part) {
        int here = 0;
        for (int m = 0; m < now.size; m++) {
            here += now.isAway(m) ? 0 : 1;
        }
        return within(part, 1) ? fraction(now.debt, here, part) : NO;
    }

    /** Part 0 (above) or 1 (below the line) of a fraction in lowest terms. */
    private static long fraction(int above, int below, int part) {
        for (int d = below; d > 0; d--) {
            if (above % d == 0 && below % d == 0) {
                return part == 0 ? above / d : below / d;
            }
        }
        return NO;
    }

    // ---- plans, books

    public int plan(int what, int mourner) {
        if (what == -1) {
            return now.plan.empty();
        }
        if (!within(what, PLAN_NEAR) || what != PLAN_DAY && !now.has(mourner)) {
            return NONE;
        }
        return now.plan.add(what, mourner);
    }

    public int ends(int what) {
        if (!within(what, 1)) {
            return NONE;
        }
        later.takeAfter(now);
        for (int k = 0; k < now.plan.size; k++) {
            goStep(at(now.plan.firsts, k), at(now.plan.seconds, k));
        }
        int all = 0;
        for (int m = 0; m < later.size; m++) {
            all += at(what == 0 ? later.paid : later.yards, m);
        }
        return all;
    }

    private void goStep(int what, int mourner) {
        switch (what) {
            case PLAN_AWAY:
                later.send(mourner, true);
                break;
            case PLAN_BACK:
                later.send(mourner, false);
                break;
            case PLAN_NEAR:
                put(later.yards, mourner, 0);
                break;
            default:
                reckoner.goDay(later, held(), PAID_WITHOUT_END);
                break;
        }
    }

    public int book(int mourner, int yard) {
        if (mourner == -1) {
            return now.book.empty();
        }
        if (!now.has(mourner) || !within(yard, LAST_YARD)) {
            return NONE;
        }
        return now.book.add(mourner, yard);
    }

    public int looked() {
        for (int k = 0; k < now.book.size; k++) {
            if (at(now.yards, at(now.book.firsts, k)) != at(now.book.seconds, k)) {
                return k;
            }
        }
        return NOT_FOUND;
    }

    // ---- judging, the image, acts, tapes

    public int judge(int tape, int i) {
        Tape row = tapeAt(tape);
        if (row == null) {
            return NONE;
        }
        if (row.holdsRow() && row.sort != Tape.SHORTS) {
            return CAST;
        }
        if (now.size == 0) {
            return NOT_FOUND;
        }
        reckoner.look(now, held());
        for (int m = 0; m < now.size; m++) {
            // i stands alone on its side: together with m it could wrap around.
            if (i < 0 || i >= row.length - m) {
                return ROW_ENDED + m;
            }
            if (row.itemAt(i + m) != reckoner.share(now, m, now.debt, now.away)) {
                return m;
            }
        }
        return NOT_FOUND;
    }

    public int image() {
        image.takeAfter(now);
        imageTaken = true;
        return now.size;
    }

    public int undo() {
        if (!imageTaken) {
            return STATE;
        }
        now.takeAfter(image);
        return now.size;
    }

    public int act(int mourner, int act, int x) {
        actor.clear();
        if (!now.has(mourner) || !within(act, Actor.TELLS)) {
            return 0;
        }
        return actor.start(now, mourner, act, x);
    }

    public int trace(int i) {
        return i >= 0 && i < Math.min(actor.ran, actor.bodies.length) ? at(actor.bodies, i) : NONE;
    }

    public int taken(int mourner, int k) {
        if (!within(k, TOLD)) {
            return BAD;
        }
        if (!now.has(mourner)) {
            return NOTHING;
        }
        int own = at(now.kinds, mourner);
        int kind = own;
        for (int n = 0; n < ABOVE.length && kind >= 0; n++) {
            if (kind == k) {
                return own;
            }
            kind = at(ABOVE, kind);
        }
        return CAST;
    }

    public int count(int what) {
        switch (what) {
            case 0:
                return now.size;
            case 1:
                return parishCount;
            case 2:
                return now.seen.size;
            case 3:
                return now.plan.size;
            case 4:
                return now.book.size;
            case 5:
                return reader.size;
            case 6:
                return actor.ran;
            default:
                return BAD;
        }
    }

    public int tape(int tape, int sort, int n) {
        Tape row = tapeAt(tape);
        if (row == null) {
            return NONE;
        }
        if (sort == Tape.EMPTY) {
            row.become(Tape.EMPTY, 0);
            return 1;
        }
        if (!within(sort, Tape.BOOLEANS) || n > MOST_ITEMS) {
            return BAD;
        }
        if (n < 0) {
            return SIZE;
        }
        row.become(sort, n);
        return 1;
    }

    public int item(int tape, int i, long v) {
        Tape row = tapeAt(tape);
        if (row == null) {
            return NONE;
        }
        if (!row.holdsRow()) {
            return NOTHING;
        }
        return row.store(i, v) ? 1 : PLACE;
    }

    public long read(int tape, int i) {
        Tape row = tapeAt(tape);
        return row == null ? NO : row.itemAt(i);
    }

    public int shift(int tape, int i, int other, int j, int n) {
        Tape from = tapeAt(tape);
        Tape to = tapeAt(other);
        if (from == null || to == null) {
            return NONE;
        }
        if (!from.holdsRow() || !to.holdsRow()) {
            return NOTHING;
        }
        if (from.sort != to.sort) {
            return CAST;
        }
        if (!from.hasPlaces(i, n) || !to.hasPlaces(j, n)) {
            return PLACE;
        }
        System.arraycopy(from.items, i, to.items, j, n);
        return n;
    }

    private Tape tapeAt(int number) {
        return number >= 0 && number < tapes.length ? tapes[number] : null;
    }

    // ---- numbers and rows

    private static boolean within(int n, int most) {
        return n >= 0 && n <= most;
    }

    private static int at(int[] row, int i) {
        return i >= 0 && i < row.length ? row[i] : 0;
    }

    private static void put(int[] row, int i, int n) {
        if (i >= 0 && i < row.length) {
            row[i] = n;
        }
    }

    /** The same rows of equal length are copied over and over: none is ever made anew. */
    private static void copyRow(int[] from, int[] to) {
        System.arraycopy(from, 0, to, 0, Math.min(from.length, to.length));
    }

    /** Rows of two numbers told by hand. */
    private static final class Pairs {
        final int most;
        final int[] firsts = new int[MOST_PLANNED];
        final int[] seconds = new int[MOST_PLANNED];
        int size;

        Pairs(int most) {
            this.most = Math.min(most, MOST_PLANNED);
        }

        int empty() {
            size = 0;
            return 0;
        }

        int add(int first, int second) {
            if (size >= most) {
                return FULL;
            }
            put(firsts, size, first);
            put(seconds, size, second);
            size++;
            return size;
        }

        void takeAfter(Pairs other) {
            copyRow(other.firsts, firsts);
            copyRow(other.seconds, seconds);
            size = other.size;
        }
    }

    /** All that THE IMAGE holds. */
    private static final class Scene {
        int size;
        final int[] kinds = new int[MOST_MOURNERS];
        final int[] vs = new int[MOST_MOURNERS];
        final int[] loves = new int[MOST_MOURNERS];
        final int[] yards = new int[MOST_MOURNERS];
        final int[] paid = new int[MOST_MOURNERS];
        /** The ROW of each MOURNER, one behind the other. */
        final int[] rows = new int[MOST_MOURNERS * ROW_PARTS];
        /** Who is AWAY, as bits. */
        int away;
        int debt = 100;
        int day;
        /** The number of the PARISH that holds; -1 without one. */
        int holds = -1;
        final Pairs seen = new Pairs(MOST_SEEN);
        final Pairs plan = new Pairs(MOST_PLANNED);
        final Pairs book = new Pairs(MOST_BOOKED);

        boolean has(int mourner) {
            return mourner >= 0 && mourner < size;
        }

        boolean isAway(int mourner) {
            return (away >> mourner & 1) != 0;
        }

        void send(int mourner, boolean off) {
            away = off ? away | 1 << mourner : away & ~(1 << mourner);
        }

        int add(int kind, int v, int love, int yard) {
            int number = size;
            put(kinds, number, kind);
            put(vs, number, v);
            put(loves, number, love);
            put(yards, number, yard);
            size++;
            return number;
        }

        /**
         * Rows come whole, so that all behind the last MOURNER stays 0: add() finds nothing there
         * of one that undo() took back.
         */
        void takeAfter(Scene other) {
            size = other.size;
            copyRow(other.kinds, kinds);
            copyRow(other.vs, vs);
            copyRow(other.loves, loves);
            copyRow(other.yards, yards);
            copyRow(other.paid, paid);
            copyRow(other.rows, rows);
            away = other.away;
            debt = other.debt;
            day = other.day;
            holds = other.holds;
            seen.takeAfter(other.seen);
            plan.takeAfter(other.plan);
            book.takeAfter(other.book);
        }
    }

    /**
     * What a text said: its clauses, each E as steps in which what is joined stands ahead of what
     * joins it, so that no E need be read twice.
     */
    private static final class Parish {
        static final int MOST_CLAUSES = 10, FIRST_SUM = 20, FIRST_FALL = 2;
        /** Places in a row of facts; the letters of a TEST stand in the same order. */
        static final int NUMBER = 0, KIND = 1, V = 2, LOVE = 3, YARD = 4, DAY = 5, FACTS = 6;
        /** Steps that are no TEST. */
        static final int NOT = 6, AND = 7, OR = 8;

        int fall = FIRST_FALL;
        /** Clauses of more and less. */
        int clauses;
        /** What each clause adds if its E holds. */
        final int[] adds = new int[MOST_CLAUSES];
        /** The step at which each clause's E has ended. */
        final int[] ends = new int[MOST_CLAUSES];

        int steps;
        /** The fact that a TEST looks at, or NOT, AND, OR. */
        final int[] whats = new int[MOST_TEXT];
        final int[] signs = new int[MOST_TEXT];
        final int[] numbers = new int[MOST_TEXT];

        void clear() {
            fall = FIRST_FALL;
            clauses = 0;
            steps = 0;
        }

        void addStep(int what, int sign, int number) {
            put(whats, steps, what);
            put(signs, steps, sign);
            put(numbers, steps, number);
            steps++;
        }

        void endClause(int adding) {
            put(adds, clauses, adding);
            put(ends, clauses, steps);
            clauses++;
        }

        int sumOf(int[] facts) {
            int sum = FIRST_SUM - fall * at(facts, YARD);
            int from = 0;
            for (int c = 0; c < clauses; c++) {
                int end = at(ends, c);
                if (holdsFrom(from, end, facts)) {
                    sum += at(adds, c);
                }
                from = end;
            }
            return sum;
        }

        private boolean holdsFrom(int from, int end, int[] facts) {
            // One bit for each truth that waits to be joined, the newest lowest: by the limit on
            // what stands within what, they are far fewer than an int has.
            int truths = 0;
            for (int k = from; k < end; k++) {
                int older = truths >> 1;
                int newest = truths & 1;
                int what = at(whats, k);
                if (what == NOT) {
                    truths ^= 1;
                } else if (what == AND) {
                    truths = older & (newest | ~1);
                } else if (what == OR) {
                    truths = older | newest;
                } else {
                    boolean so = passes(at(facts, what), at(signs, k), at(numbers, k));
                    truths = truths << 1 | (so ? 1 : 0);
                }
            }
            return (truths & 1) != 0;
        }

        private static boolean passes(int fact, int sign, int number) {
            switch (sign) {
                case '<':
                    return fact < number;
                case '>':
                    return fact > number;
                default:
                    return fact == number;
            }
        }
    }

    /**
     * Keeps THE TEXT and reads it into a parish. Each method goes on over what it could read and
     * answers whether that was all it needed; the place where one stops short is the FAULT.
     */
    private static final class Reader {
        static final int END = -1, MOST_DEPTH = 4;

        private final byte[] text = new byte[MOST_TEXT];
        int size;
        int place;
        /** The sign at the place; END behind the last. */
        private int sign = END;
        /** The newest number that was read. */
        private int number;
        private Parish into = new Parish();

        int append(int added) {
            if (size < 0 || size >= text.length) {
                return FULL;
            }
            text[size] = (byte) added;
            size++;
            return size;
        }

        /** THE TEXT is empty behind this, whether it was a parish or not. */
        boolean readAll(Parish parish) {
            into = parish;
            into.clear();
            place = -1;
            advance();
            boolean good = readClause();
            for (int n = 1; n < Parish.MOST_CLAUSES && good && sign == ';'; n++) {
                advance();
                good = readClause();
            }
            size = 0;
            return good && sign == END;
        }

        private void advance() {
            place++;
            sign = place >= 0 && place < size && place < text.length ? text[place] : END;
        }

        private boolean readClause() {
            boolean yard = sign == 'y';
            boolean less = sign == 'l';
            if (!readWord(yard ? "yard " : less ? "less " : "more ") || !readNumber()) {
                return false;
            }
            if (yard) {
                into.fall = number;
                return true;
            }
            int adding = less ? -number : number;
            boolean good = readWord(" ") && readEither(0);
            into.endClause(adding);
            return good;
        }

        private boolean readWord(String word) {
            for (int k = 0; k < word.length(); k++) {
                if (sign != word.charAt(k)) {
                    return false;
                }
                advance();
            }
            return true;
        }

        private boolean readNumber() {
            if (sign < '0' || sign > '9') {
                return false;
            }
            number = sign - '0';
            advance();
            if (sign >= '0' && sign <= '9') {
                number = number * 10 + sign - '0';
                advance();
            }
            return true;
        }

        /** An E, within so many ( and !. */
        private boolean readEither(int depth) {
            boolean good = readPart(depth);
            boolean alternativeWaits = false;
            for (int n = 0; n < MOST_TEXT && good && (sign == '&' || sign == '|'); n++) {
                boolean or = sign == '|';
                // What & joins binds closer, so | is put off until its right side is whole.
                if (or && alternativeWaits) {
                    into.addStep(Parish.OR, 0, 0);
                }
                alternativeWaits = alternativeWaits || or;
                advance();
                good = readPart(depth);
                if (!or) {
                    into.addStep(Parish.AND, 0, 0);
                }
            }
            if (alternativeWaits) {
                into.addStep(Parish.OR, 0, 0);
            }
            return good;
        }

        /** An F, within so many ( and !. */
        private boolean readPart(int depth) {
            if (sign != '!' && sign != '(') {
                return readTest();
            }
            if (depth >= MOST_DEPTH) {
                return false;
            }
            boolean not = sign == '!';
            advance();
            if (not) {
                boolean good = readPart(depth + 1);
                into.addStep(Parish.NOT, 0, 0);
                return good;
            }
            return readEither(depth + 1) && readWord(")");
        }

        private boolean readTest() {
            int what = whatOf(sign);
            if (what == NONE) {
                return false;
            }
            advance();
            int comparison = sign;
            if (comparison != '<' && comparison != '=' && comparison != '>') {
                return false;
            }
            advance();
            boolean good = readNumber();
            into.addStep(what, comparison, number);
            return good;
        }

        private static int whatOf(int letter) {
            switch (letter) {
                case 'p':
                    return Parish.NUMBER;
                case 'k':
                    return Parish.KIND;
                case 'v':
                    return Parish.V;
                case 'l':
                    return Parish.LOVE;
                case 'y':
                    return Parish.YARD;
                case 'd':
                    return Parish.DAY;
                default:
                    return NONE;
            }
        }
    }

    /**
     * Reckons RATES, SHARES and WORTH. The RATES of all at all YARDS stand in one row, which look()
     * fills: they change by DAY, PARISH and what the MOURNERS are, not by where these stand.
     */
    private static final class Reckoner {
        static final int FAR = 5, VICAR_DAYS = 7, FACT_DAYS = 10;

        private final int[] rates = new int[MOST_MOURNERS * YARDS];
        private final int[] facts = new int[Parish.FACTS];
        /** The RATES that count in a reckoning of SHARES: 0 for one AWAY, and none below 0. */
        private final int[] counted = new int[MOST_MOURNERS];

        void look(Scene scene, Parish parish) {
            put(facts, Parish.DAY, scene.day % FACT_DAYS);
            for (int m = 0; m < scene.size; m++) {
                put(facts, Parish.NUMBER, m);
                put(facts, Parish.KIND, at(scene.kinds, m));
                put(facts, Parish.V, at(scene.vs, m));
                put(facts, Parish.LOVE, at(scene.loves, m));
                for (int yard = 0; yard < YARDS; yard++) {
                    put(facts, Parish.YARD, yard);
                    int sum = parish.sumOf(facts);
                    put(rates, m * YARDS + yard, rateBySum(scene, m, yard, sum));
                }
            }
        }

        private static int rateBySum(Scene scene, int mourner, int yard, int sum) {
            int v = at(scene.vs, mourner);
            int wept = yard >= FAR ? 1 : sum;
            switch (at(scene.kinds, mourner)) {
                case COUSIN:
                    return sum + v;
                case CREDITOR:
                    return sum / 2;
                case WEEPER:
                    return wept;
                case VICAR:
                    return scene.day % VICAR_DAYS == 0 ? 0 : sum + v;
                case BEARER:
                    return sum / 2 + 5;
                case TOLD:
                    return wept + at(scene.rows, mourner * ROW_PARTS + yard % ROW_PARTS);
                default:
                    return sum;
            }
        }

        int rate(int mourner, int yard) {
            return at(rates, mourner * YARDS + yard);
        }

        /** What one PAYS of a debt where it stands, if those in the bits of off are AWAY. */
        int share(Scene scene, int mourner, int debt, int off) {
            return pays(scene, mourner, at(scene.yards, mourner), debt, off);
        }

        /** The same, if that one stood at a YARD and all others where they do. */
        private int pays(Scene scene, int mourner, int yard, int debt, int off) {
            int together = 0;
            int first = -1;
            int greatest = 0;
            for (int m = 0; m < scene.size; m++) {
                int stands = m == mourner ? yard : at(scene.yards, m);
                int rate = (off >> m & 1) != 0 ? 0 : Math.max(0, at(rates, m * YARDS + stands));
                put(counted, m, rate);
                together += rate;
                if (rate > greatest) {
                    greatest = rate;
                    first = m;
                }
            }
            if (together <= 0) {
                return 0;
            }
            if (mourner != first) {
                return debt * at(counted, mourner) / together;
            }
            int left = debt;
            for (int m = 0; m < scene.size; m++) {
                left -= m == first ? 0 : debt * at(counted, m) / together;
            }
            return left;
        }

        int worth(Scene scene, int mourner, int yard) {
            int off = scene.away & ~(1 << mourner);
            int love = at(scene.loves, mourner) * (YARDS - yard);
            return love - pays(scene, mourner, yard, scene.debt, off);
        }

        int best(Scene scene, int mourner) {
            int found = 0;
            int greatest = worth(scene, mourner, 0);
            for (int yard = 1; yard < YARDS; yard++) {
                int worth = worth(scene, mourner, yard);
                if (worth > greatest) {
                    greatest = worth;
                    found = yard;
                }
            }
            return found;
        }

        /** Whether all of SEEN is so, were DEBT that. */
        boolean fits(Scene scene, int debt) {
            for (int k = 0; k < scene.seen.size; k++) {
                int share = share(scene, at(scene.seen.firsts, k), debt, scene.away);
                if (share != at(scene.seen.seconds, k)) {
                    return false;
                }
            }
            return true;
        }

        /** A DAY goes: answers how many moved. */
        int goDay(Scene scene, Parish parish, int mostPaid) {
            look(scene, parish);
            int moved = 0;
            for (int m = 0; m < scene.size; m++) {
                int stands = at(scene.yards, m);
                int best = best(scene, m);
                if (!scene.isAway(m) && worth(scene, m, best) > worth(scene, m, stands)) {
                    put(scene.yards, m, best);
                    moved++;
                }
            }
            for (int m = 0; m < scene.size; m++) {
                int paid = at(scene.paid, m) + share(scene, m, scene.debt, scene.away);
                put(scene.paid, m, Math.min(mostPaid, paid));
            }
            scene.day++;
            return moved;
        }
    }

    /** Runs the bodies of one MOURNER's acts and keeps which of them ran. */
    private static final class Actor {
        static final int STANDS = 0, SIGHS = 1, TELLS = 2;
        /** Far more than any act needs. */
        static final int MOST_OPEN = 40;
        /** By act and KIND the number of the body; 0: that KIND has none. */
        private static final int[] BODY = {
            10, 0, 30, 0, 50, 0, 71,
            11, 20, 0, 0, 51, 0, 70,
            12, 0, 0, 40, 0, 60, 0,
        };

        private int number;
        private int v;
        private int kind;
        /** How many bodies ran, kept or not. */
        int ran;
        final int[] bodies = new int[20];

        void clear() {
            ran = 0;
        }

        int start(Scene scene, int mourner, int act, int x) {
            number = mourner;
            v = at(scene.vs, mourner);
            kind = at(scene.kinds, mourner);
            return run(act, kind, x, 0);
        }

        /** Runs the body that an act has from a KIND on, so many others being open. */
        private int run(int act, int from, int x, int open) {
            int owner = ownerOf(act, from);
            int above = at(ABOVE, owner);
            int body = at(BODY, act * ABOVE.length + owner);
            int deeper = open + 1;
            if (deeper > MOST_OPEN) {
                return 0;
            }
            put(bodies, ran, body);
            ran++;
            switch (body) {
                case 10:
                    return x + number;
                case 11:
                    return run(STANDS, kind, x, deeper) - v;
                case 12:
                    return run(SIGHS, kind, x, deeper) * 2;
                case 20:
                    return run(SIGHS, above, x, deeper) ^ 6;
                case 30:
                    return run(STANDS, above, x * 3, deeper);
                case 40:
                    return run(TELLS, above, x, deeper) + run(SIGHS, kind, 1, deeper);
                case 50:
                    return -run(STANDS, above, x, deeper);
                case 51:
                    return run(SIGHS, above, x + 1, deeper);
                case 60:
                    return run(TELLS, above, x - number, deeper);
                case 70:
                    return run(SIGHS, above, x, deeper) + run(STANDS, above, 2, deeper);
                case 71:
                    return run(STANDS, above, x, deeper) ^ v;
                default:
                    return 0;
            }
        }

        /** The KIND, from one on upward, that has a body for an act. */
        private static int ownerOf(int act, int from) {
            int owner = from;
            for (int n = 0; n < ABOVE.length && owner > MOURNER; n++) {
                if (at(BODY, act * ABOVE.length + owner) != 0) {
                    return owner;
                }
                owner = at(ABOVE, owner);
            }
            return MOURNER;
        }
    }

    /** A row of items of one sort, or nothing. */
    private static final class Tape {
        static final int EMPTY = -1, BYTES = 0, SHORTS = 1, INTS = 2, LONGS = 3, BOOLEANS = 4;

        int sort = EMPTY;
        int length;
        final long[] items = new long[MOST_ITEMS];

        boolean holdsRow() {
            return sort != EMPTY;
        }

        void become(int newSort, int newLength) {
            sort = newSort;
            length = Math.min(newLength, items.length);
            for (int i = 0; i < items.length; i++) {
                items[i] = 0;
            }
        }

        long itemAt(int i) {
            return i >= 0 && i < length && i < items.length ? items[i] : NO;
        }

        boolean store(int i, long value) {
            if (i < 0 || i >= length || i >= items.length) {
                return false;
            }
            items[i] = fitted(value);
            return true;
        }

        boolean hasPlaces(int from, int n) {
            return n >= 0 && from >= 0 && n <= length && from <= length - n;
        }

        private long fitted(long value) {
            switch (sort) {
                case BYTES:
                    return (byte) value;
                case SHORTS:
                    return (short) value;
                case INTS:
                    return (int) value;
                case BOOLEANS:
                    return value != 0 ? 1 : 0;
                default:
                    return value;
            }
        }
    }
}

/** The edges of promises 22 and 29 to 32: tapes, and what is judged by them. */
final class TapeEdges {
    private static final int MOST = Integer.MAX_VALUE, LEAST = Integer.MIN_VALUE;
    private static final int BYTES = 0, SHORTS = 1, INTS = 2, LONGS = 3, BOOLEANS = 4;

    private final Edges e;

    private TapeEdges(Edges e) {
        this.e = e;
    }

    static void run(Edges e) {
        TapeEdges edges = new TapeEdges(e);
        edges.atFirst();
        edges.judged();
        edges.judgedByPlace();
        edges.nobodyIsJudged();
        edges.rowEnds();
        edges.judgeRefused();
        edges.tape();
        edges.tapeHoldsNothing();
        edges.tapeRefused();
        edges.item();
        edges.itemBits();
        edges.itemRefused();
        edges.read();
        edges.readRefused();
        edges.shift();
        edges.shiftSame();
        edges.shiftRefused();
        edges.shiftPlaces();
        edges.refusals();
    }

    private void atFirst() {
        e.says(Edges.TERMS, "TAPES 0 .. 5 hold nothing (at first), or a row of 0 bytes, 1 shorts,"
                + " 2 ints, 3 longs, 4 booleans (items 0, 1).");
        for (int tape = 0; tape <= 5; tape++) {
            int t = tape;
            e.still("read " + t, Made::empty, x -> x.read(t, 0), Edges.NO);
            e.still("item " + t, Made::empty, x -> x.item(t, 0, 1), Edges.NOTHING);
            e.still("shift " + t, Made::empty, x -> x.shift(t, 0, t, 0, 0), Edges.NOTHING);
            e.due("judge " + t, Made::two, x -> x.judge(t, 0), 100);
            for (int sort = BYTES; sort <= BOOLEANS; sort++) {
                FuneralDebts x = Made.empty();
                e.due("becomes a row", x.tape(t, sort, 1), 1);
                x.item(t, 0, 3);
                e.due("3 as " + sort, x.read(t, 0), sort == BOOLEANS ? 1 : 3);
            }
        }
    }

    // ---- promise 22

    /** As two(), B being away or not, with a row of shorts on tape 1. */
    private static FuneralDebts judging(boolean away, int... row) {
        FuneralDebts x = Made.two();
        x.away(1, away);
        x.tape(1, SHORTS, row.length);
        for (int i = 0; i < row.length; i++) {
            x.item(1, i, row[i]);
        }
        return x;
    }

    private void judge(int want, int from, boolean away, int... row) {
        e.still("judge from " + from, () -> judging(away, row), x -> x.judge(1, from), want);
    }

    private void judged() {
        e.says(Edges.TERMS, "SHARES told by a row of shorts, from a place on, one by one (of one"
                + " AWAY: 0), are JUDGED:");
        judge(Edges.NEVER, 0, false, 48, 52);
        judge(Edges.NEVER, 0, true, 100, 0);
        judge(1, 0, true, 100, 52);
        judge(0, 0, true, 48, 0);
        e.says(Edges.TERMS, "the first that is otherwise (counted from 0 from that place on);");
        judge(0, 0, false, 47, 52);
        judge(0, 0, false, 49, 51);
        judge(1, 0, false, 48, 51);
        judge(0, 0, false, -48, 52);
        judge(1, 2, false, 48, 52, 48, 53);
        judge(0, 1, false, 48, 52, 48, 52);
        FuneralDebts x = Made.several(6, 0);
        x.debt(999);
        x.tape(5, SHORTS, 60);
        for (int i = 0; i < 6; i++) {
            x.item(5, 54 + i, i == 0 ? 169 : 166);
        }
        e.due("the last six of 60", x.judge(5, 54), Edges.NEVER);
        for (int i = 5; i >= 0; i--) {
            x.item(5, 54 + i, 165);
            e.due("otherwise from " + i, x.judge(5, 54), i);
        }
        FuneralDebts y = Made.several(1, 0);
        y.debt(999);
        y.tape(0, SHORTS, 1);
        y.item(0, 0, 999);
        e.due("the most that one can pay", y.judge(0, 0), Edges.NEVER);
        y.item(0, 0, 999 + 65536);
        e.due("the same by its lowest bits", y.judge(0, 0), Edges.NEVER);
        y.debt(998);
        e.due("one alone is otherwise", y.judge(0, 0), 0);
        e.due("one alone, the row having ended", y.judge(0, 1), 100);
    }

    private void judgedByPlace() {
        e.says(22, "JUDGED from place i of a TAPE on.");
        judge(Edges.NEVER, 2, false, 1, 2, 48, 52);
        judge(Edges.NEVER, 1, false, 1, 48, 52, 4);
        judge(0, 0, false, 1, 48, 52, 4);
        // The others are left as they are, whatever stands there.
        for (int tape = 0; tape <= 5; tape++) {
            FuneralDebts x = Made.two();
            x.tape(tape, SHORTS, 2);
            x.item(tape, 0, 48);
            e.due("tape " + tape, x.judge(tape, 0), 1);
        }
    }

    private void nobodyIsJudged() {
        e.says(Edges.TERMS, "-5: none, or there are no MOURNERS (wherever the place is, also if the"
                + " TAPE holds nothing);");
        for (int i : new int[] {0, 1, 59, 60, -1, LEAST, MOST}) {
            e.still("nothing, place " + i, Made::empty, x -> x.judge(0, i), Edges.NEVER);
            e.still("no items, place " + i, () -> shorts(0), x -> x.judge(0, i), Edges.NEVER);
            e.still("60 items, place " + i, () -> shorts(60), x -> x.judge(0, i), Edges.NEVER);
        }
    }

    private static FuneralDebts shorts(int n) {
        FuneralDebts x = Made.empty();
        x.tape(0, SHORTS, n);
        return x;
    }

    private void rowEnds() {
        e.says(Edges.TERMS, "100 and how many were looked at, if the row ends ahead of that (or the"
                + " place is below 0, or the TAPE holds nothing).");
        judge(101, 0, false, 48);
        judge(101, 1, false, 0, 48);
        judge(100, 1, false, 48);
        judge(100, 2, false, 48, 52);
        judge(100, 3, false, 48, 52);
        judge(100, MOST, false, 48, 52);
        judge(100, MOST - 1, false, 48, 52);
        judge(100, 0, false);
        judge(0, 1, false, 48, 52);
        judge(100, -1, false, 48, 52);
        judge(100, -2, false, 48, 52, 48);
        judge(100, LEAST, false, 48, 52);
        e.still("nothing", Made::two, x -> x.judge(1, 0), 100);
        e.still("nothing", Made::two, x -> x.judge(5, -1), 100);
        e.still("nothing", Made::two, x -> x.judge(5, MOST), 100);
        FuneralDebts x = Made.several(6, 4);
        for (int n = 0; n < 6; n++) {
            x.tape(0, SHORTS, n);
            e.due("looked at " + n, x.judge(0, 0), 100 + n);
        }
        x.tape(0, SHORTS, 60);
        for (int n = 0; n <= 6; n++) {
            e.due("the last " + n, x.judge(0, 60 - n), n == 6 ? Edges.NEVER : 100 + n);
        }
        e.due("holds nothing any more", x.tape(0, -1, 0) + x.judge(0, 0), 101);
    }

    private void judgeRefused() {
        e.says(22, "NONE: tape;");
        for (int tape : Edges.beyond(5)) {
            e.still("tape " + tape, Made::busy, x -> x.judge(tape, 0), Edges.NONE);
            e.still("tape " + tape, Made::empty, x -> x.judge(tape, 0), Edges.NONE);
        }
        e.says(22, "CAST: it is no row of shorts.");
        for (int sort : new int[] {BYTES, INTS, LONGS, BOOLEANS}) {
            for (int i : new int[] {0, -1, 5, MOST}) {
                e.still("sort " + sort, Made::busy, x -> x.judge(sort, i), Edges.CAST);
            }
            FuneralDebts x = Made.two();
            x.tape(0, sort, 0);
            e.due("an empty row of " + sort, x.judge(0, 0), Edges.CAST);
        }
        e.due("shorts are one", Made::busy, x -> x.judge(SHORTS, 5), 100);
    }

    // ---- promise 29

    private void tape() {
        e.says(29, "A TAPE becomes a row of n (0 .. 60) of a sort, all 0,");
        for (int sort = BYTES; sort <= BOOLEANS; sort++) {
            FuneralDebts x = Made.empty();
            e.due("60", x.tape(0, sort, 60), 1);
            e.due("60", x.tape(5, sort, 60), 1);
            for (int i = 0; i < 60; i++) {
                x.item(0, i, 1);
            }
            e.due("the last", x.read(0, 59), 1);
            e.due("none behind it", x.read(0, 60), Edges.NO);
            e.due("the other stays", x.read(5, 59), 0);
            e.due("anew", x.tape(0, sort, 60), 1);
            for (int i = 0; i < 60; i++) {
                e.due("all 0", x.read(0, i), 0);
            }
            x.item(0, 1, 1);
            e.due("0", x.tape(0, sort, 0), 1);
            e.due("no first", x.read(0, 0), Edges.NO);
            e.due("no place", x.item(0, 0, 1), Edges.PLACE);
            e.due("1", x.tape(0, sort, 1), 1);
            e.due("no second", x.read(0, 1), Edges.NO);
            e.due("2", x.tape(0, sort, 2), 1);
            e.due("nothing is left of what was", x.read(0, 1), 0);
        }
        FuneralDebts x = Made.empty();
        x.tape(0, LONGS, 3);
        x.item(0, 0, 200);
        x.tape(0, BYTES, 3);
        e.due("another sort, all 0", x.read(0, 0), 0);
        x.item(0, 0, 200);
        e.due("of that sort", x.read(0, 0), -56);
    }

    private void tapeHoldsNothing() {
        e.says(29, "or holds nothing (sort -1: n does not matter): 1.");
        for (int n : new int[] {0, 1, 60, 61, -1, LEAST, MOST}) {
            FuneralDebts x = Made.busy();
            e.due("n " + n, x.tape(SHORTS, -1, n), 1);
            e.due("not to be read", x.read(SHORTS, 0), Edges.NO);
            e.due("nothing there", x.item(SHORTS, 0, 0), Edges.NOTHING);
            e.due("the next stays", x.read(INTS, 0), 3);
            e.still("still nothing", Made::busy, y -> y.tape(5, -1, n), 1);
            e.due("a row again", x.tape(SHORTS, SHORTS, 5), 1);
            e.due("all 0", x.read(SHORTS, 0), 0);
        }
    }

    private void tapeRefused() {
        e.says(29, "NONE: tape;");
        for (int tape : Edges.beyond(5)) {
            e.still("tape " + tape, Made::busy, x -> x.tape(tape, 0, 1), Edges.NONE);
            e.still("nothing on " + tape, Made::busy, x -> x.tape(tape, -1, 1), Edges.NONE);
        }
        e.still("none ahead of bad", Made::busy, x -> x.tape(6, 5, 1), Edges.NONE);
        e.still("none ahead of bad", Made::busy, x -> x.tape(6, 0, 61), Edges.NONE);
        e.still("none ahead of size", Made::busy, x -> x.tape(-1, 0, -1), Edges.NONE);
        e.says(29, "BAD: sort, n above 60;");
        for (int sort : Edges.beyondButOne(4)) {
            e.still("sort " + sort, Made::busy, x -> x.tape(1, sort, 1), Edges.BAD);
            e.still("bad ahead of size", Made::busy, x -> x.tape(1, sort, -1), Edges.BAD);
        }
        for (int n : new int[] {61, 62, MOST}) {
            e.still("n " + n, Made::busy, x -> x.tape(1, 1, n), Edges.BAD);
            e.still("n " + n, Made::busy, x -> x.tape(5, 4, n), Edges.BAD);
        }
        e.says(29, "SIZE.");
        for (int n : new int[] {-1, -2, LEAST}) {
            for (int sort = BYTES; sort <= BOOLEANS; sort++) {
                int s = sort;
                e.still("n " + n + " of " + s, Made::busy, x -> x.tape(s, s, n), Edges.SIZE);
            }
            e.still("n " + n, Made::busy, x -> x.tape(5, 0, n), Edges.SIZE);
        }
    }

    // ---- promise 30

    private void item() {
        e.says(30, "Item i of a TAPE becomes v");
        for (int sort = BYTES; sort <= BOOLEANS; sort++) {
            FuneralDebts x = Made.empty();
            x.tape(2, sort, 60);
            x.tape(3, sort, 60);
            e.due("the first", x.item(2, 0, 1), 1);
            e.due("the last", x.item(2, 59, 1), 1);
            e.due("the first is", x.read(2, 0), 1);
            e.due("the last is", x.read(2, 59), 1);
            e.due("the second stays", x.read(2, 1), 0);
            e.due("the last but one stays", x.read(2, 58), 0);
            e.due("another one's stays", x.read(3, 0) + x.read(3, 59), 0);
            e.due("0 again", x.item(2, 0, 0), 1);
            e.due("is", x.read(2, 0), 0);
        }
    }

    /** A value, and what becomes of it as a byte, a short, an int, a long and a boolean. */
    private void bits(long v, long... as) {
        for (int sort = BYTES; sort <= BOOLEANS; sort++) {
            FuneralDebts x = Made.empty();
            x.tape(0, sort, 1);
            e.due(v + " as " + sort, x.item(0, 0, v), 1);
            e.due(v + " as " + sort, x.read(0, 0), as[sort]);
        }
    }

    private void itemBits() {
        e.says(30, "(its lowest bits, as many as an item has, with their sign;");
        bits(0, 0, 0, 0, 0, 0);
        bits(1, 1, 1, 1, 1, 1);
        bits(-1, -1, -1, -1, -1, 1);
        bits(127, 127, 127, 127, 127, 1);
        bits(128, -128, 128, 128, 128, 1);
        bits(255, -1, 255, 255, 255, 1);
        bits(256, 0, 256, 256, 256, 1);
        bits(-128, -128, -128, -128, -128, 1);
        bits(-129, 127, -129, -129, -129, 1);
        bits(32767, -1, 32767, 32767, 32767, 1);
        bits(32768, 0, -32768, 32768, 32768, 1);
        bits(65535, -1, -1, 65535, 65535, 1);
        bits(65536, 0, 0, 65536, 65536, 1);
        bits(-32769, -1, 32767, -32769, -32769, 1);
        bits(2147483647L, -1, -1, MOST, MOST, 1);
        bits(2147483648L, 0, 0, LEAST, 2147483648L, 1);
        bits(4294967295L, -1, -1, -1, 4294967295L, 1);
        bits(4294967296L, 0, 0, 0, 4294967296L, 1);
        bits(-2147483649L, -1, -1, MOST, -2147483649L, 1);
        bits(Long.MAX_VALUE, -1, -1, -1, Long.MAX_VALUE, 1);
        bits(Long.MIN_VALUE, 0, 0, 0, Long.MIN_VALUE, 1);
        e.says(30, "booleans: whether v is not 0): 1.");
        for (long v : new long[] {2, 256, 65536, 1L << 32, -2, 1L << 63, 10, 100}) {
            bits(v, (byte) v, (short) v, (int) v, v, 1);
        }
    }

    private void itemRefused() {
        e.says(30, "NONE;");
        for (int tape : Edges.beyond(5)) {
            e.still("tape " + tape, Made::busy, x -> x.item(tape, 0, 1), Edges.NONE);
            e.still("none ahead of place", Made::busy, x -> x.item(tape, -1, 1), Edges.NONE);
        }
        e.says(30, "NOTHING;");
        e.still("tape 5", Made::busy, x -> x.item(5, 0, 1), Edges.NOTHING);
        e.still("nothing ahead of place", Made::busy, x -> x.item(5, -1, 1), Edges.NOTHING);
        e.still("nothing ahead of place", Made::busy, x -> x.item(5, MOST, 1), Edges.NOTHING);
        e.says(30, "PLACE.");
        for (int i : Edges.beyond(4)) {
            for (int sort = BYTES; sort <= BOOLEANS; sort++) {
                int s = sort;
                e.still("place " + i + " of " + s, Made::busy, x -> x.item(s, i, 1), Edges.PLACE);
            }
        }
        e.still("place 60 of 60", Made::full, x -> x.item(0, 60, 1), Edges.PLACE);
        e.still("place 0 of none", () -> shorts(0), x -> x.item(0, 0, 1), Edges.PLACE);
    }

    // ---- promise 31

    private void read() {
        e.says(31, "Item i of a TAPE.");
        e.still("the first", Made::busy, x -> x.read(INTS, 0), 3);
        e.still("the second", Made::busy, x -> x.read(INTS, 1), 0);
        e.still("the last", Made::busy, x -> x.read(INTS, 4), -2);
        e.still("a boolean", Made::busy, x -> x.read(BOOLEANS, 4), 1);
        e.still("the last of 60", Made::full, x -> x.read(0, 59), 9);
    }

    private void readRefused() {
        e.says(31, "NO: no such TAPE,");
        for (int tape : Edges.beyond(5)) {
            e.still("tape " + tape, Made::busy, x -> x.read(tape, 0), Edges.NO);
        }
        e.says(31, "nothing there,");
        for (int i : new int[] {0, 1, 59, -1, MOST}) {
            e.still("place " + i, Made::busy, x -> x.read(5, i), Edges.NO);
        }
        e.says(31, "no such place.");
        for (int i : Edges.beyond(4)) {
            for (int sort = BYTES; sort <= BOOLEANS; sort++) {
                int s = sort;
                e.still("place " + i + " of " + s, Made::busy, x -> x.read(s, i), Edges.NO);
            }
        }
        e.still("place 60 of 60", Made::full, x -> x.read(0, 60), Edges.NO);
        e.still("place 0 of none", () -> shorts(0), x -> x.read(0, 0), Edges.NO);
    }

    // ---- promise 32

    /** Tape 0: 1 2 3 4 5; tape 1: 6 7 8, of ints; tape 2: five shorts; the rest holds nothing. */
    private static FuneralDebts rows() {
        FuneralDebts x = Made.empty();
        x.tape(0, INTS, 5);
        x.tape(1, INTS, 3);
        x.tape(2, SHORTS, 5);
        for (int i = 0; i < 8; i++) {
            x.item(i < 5 ? 0 : 1, i < 5 ? i : i - 5, i + 1);
        }
        return x;
    }

    private void shifted(int tape, int i, int other, int j, int n, int... rows) {
        String call = "shift(" + tape + ", " + i + ", " + other + ", " + j + ", " + n + ")";
        FuneralDebts x = rows();
        e.due(call, x.shift(tape, i, other, j, n), n);
        for (int k = 0; k < 8; k++) {
            e.due(call + ": item " + k, x.read(k < 5 ? 0 : 1, k < 5 ? k : k - 5), rows[k]);
        }
        e.due(call + ": ends", x.read(0, 5), Edges.NO);
        e.due(call + ": ends", x.read(1, 3), Edges.NO);
    }

    private void shift() {
        e.says(32, "n items of a TAPE from i on come to another one");
        shifted(0, 0, 1, 0, 3, 1, 2, 3, 4, 5, 1, 2, 3);
        shifted(0, 2, 1, 0, 3, 1, 2, 3, 4, 5, 3, 4, 5);
        shifted(0, 4, 1, 2, 1, 1, 2, 3, 4, 5, 6, 7, 5);
        shifted(1, 0, 0, 2, 3, 1, 2, 6, 7, 8, 6, 7, 8);
        shifted(1, 1, 0, 0, 2, 7, 8, 3, 4, 5, 6, 7, 8);
        for (int i = 0; i <= 5; i++) {
            for (int j = 0; j <= 3; j++) {
                int from = i;
                int to = j;
                e.still("none", TapeEdges::rows, x -> x.shift(0, from, 1, to, 0), 0);
            }
        }
        for (int sort = BYTES; sort <= BOOLEANS; sort++) {
            FuneralDebts x = Made.empty();
            x.tape(4, sort, 60);
            x.tape(5, sort, 60);
            x.item(4, 59, -1);
            e.due("60 of " + sort, x.shift(4, 0, 5, 0, 60), 60);
            e.due("the last", x.read(5, 59), sort == BOOLEANS ? 1 : -1);
            e.due("the first", x.read(5, 0), 0);
            x.item(4, 59, 0);
            e.due("each has its own", x.read(5, 59), sort == BOOLEANS ? 1 : -1);
        }
    }

    private void shiftSame() {
        e.says(32, "(or the same) from j on, as they all were before: n.");
        shifted(0, 0, 0, 1, 4, 1, 1, 2, 3, 4, 6, 7, 8);
        shifted(0, 1, 0, 0, 4, 2, 3, 4, 5, 5, 6, 7, 8);
        shifted(0, 0, 0, 2, 3, 1, 2, 1, 2, 3, 6, 7, 8);
        shifted(0, 2, 0, 0, 3, 3, 4, 5, 4, 5, 6, 7, 8);
        shifted(0, 0, 0, 0, 5, 1, 2, 3, 4, 5, 6, 7, 8);
        shifted(0, 0, 0, 4, 1, 1, 2, 3, 4, 1, 6, 7, 8);
        shifted(0, 5, 0, 5, 0, 1, 2, 3, 4, 5, 6, 7, 8);
    }

    private void shiftRefused() {
        e.says(32, "NONE: tapes;");
        for (int tape : Edges.beyond(5)) {
            e.still("tape " + tape, TapeEdges::rows, x -> x.shift(tape, 0, 0, 0, 1), Edges.NONE);
            e.still("other " + tape, TapeEdges::rows, x -> x.shift(0, 0, tape, 0, 1), Edges.NONE);
            e.still("both", TapeEdges::rows, x -> x.shift(tape, 0, tape, 0, 1), Edges.NONE);
            e.still("ahead of nothing", TapeEdges::rows, x -> x.shift(5, 0, tape, 0, 1), Edges.NONE);
            e.still("ahead of place", TapeEdges::rows, x -> x.shift(tape, -1, 0, 0, 1), Edges.NONE);
        }
        e.says(32, "NOTHING;");
        e.still("from 5", TapeEdges::rows, x -> x.shift(5, 0, 0, 0, 1), Edges.NOTHING);
        e.still("to 5", TapeEdges::rows, x -> x.shift(0, 0, 5, 0, 1), Edges.NOTHING);
        e.still("from 5 to 5", TapeEdges::rows, x -> x.shift(5, 0, 5, 0, 0), Edges.NOTHING);
        e.still("ahead of place", TapeEdges::rows, x -> x.shift(5, -1, 0, 0, 1), Edges.NOTHING);
        e.still("ahead of place", TapeEdges::rows, x -> x.shift(0, 0, 5, 0, -1), Edges.NOTHING);
        e.says(32, "CAST: of unlike sorts;");
        for (int sort = BYTES; sort <= BOOLEANS; sort++) {
            int other = (sort + 1) % 5;
            int s = sort;
            e.still(s + " to " + other, Made::busy, x -> x.shift(s, 0, other, 0, 1), Edges.CAST);
            e.still(other + " to " + s, Made::busy, x -> x.shift(other, 0, s, 0, 0), Edges.CAST);
        }
        e.still("ahead of place", TapeEdges::rows, x -> x.shift(0, 9, 2, 0, 1), Edges.CAST);
        e.still("ahead of place", TapeEdges::rows, x -> x.shift(0, 0, 2, 0, -1), Edges.CAST);
    }

    private void shiftPlaces() {
        e.says(32, "PLACE: n, i or j is below 0, or beyond either's end.");
        int[][] places = {{0, 0, -1}, {0, 0, LEAST}, {5, 3, -1}, {-1, 0, 1}, {-1, 0, 0}, {LEAST, 0, 1},
            {0, -1, 1}, {0, -1, 0}, {0, LEAST, 1}, {0, 0, 4}, {0, 1, 3}, {0, 3, 1}, {0, 4, 0},
            {3, 0, 3}, {5, 0, 1}, {6, 0, 0}, {6, 0, 1}, {4, 0, 2}, {0, 0, MOST}, {MOST, 0, 1},
            {MOST, 0, 0}, {0, MOST, 1}, {0, MOST, 0}, {1, 0, MOST}, {0, 1, MOST}, {1, 1, MOST},
            {MOST, MOST, MOST}, {MOST, 0, MOST}, {LEAST, LEAST, LEAST}, {-1, 0, MOST}};
        for (int[] p : places) {
            String call = p[0] + " to " + p[1] + " by " + p[2];
            e.still(call, TapeEdges::rows, x -> x.shift(0, p[0], 1, p[1], p[2]), Edges.PLACE);
        }
        e.still("more than the same has", TapeEdges::rows, x -> x.shift(1, 0, 1, 1, 3), Edges.PLACE);
        e.still("more than the other has", TapeEdges::rows, x -> x.shift(1, 0, 0, 3, 3), Edges.PLACE);
        e.still("more than it has", TapeEdges::rows, x -> x.shift(1, 0, 0, 0, 4), Edges.PLACE);
        e.due("as many as it has", TapeEdges::rows, x -> x.shift(1, 0, 0, 2, 3), 3);
    }

    private void refusals() {
        e.says(Edges.TERMS, "The host's refusals: NOTHING (-11): nothing is there;");
        e.due("no MOURNER", Made::empty, x -> x.taken(0, 0), -11);
        e.due("no row", Made::empty, x -> x.item(0, 0, 0), -11);
        e.says(Edges.TERMS, "CAST (-12): another sort or KIND;");
        e.due("another KIND", Made::two, x -> x.taken(0, 1), -12);
        e.due("another sort", Made::busy, x -> x.judge(BYTES, 0), -12);
        e.says(Edges.TERMS, "PLACE (-13): no such place;");
        e.due("place 5 of 5", Made::busy, x -> x.item(0, 5, 0), -13);
        e.says(Edges.TERMS, "SIZE (-14): a size below 0.");
        e.due("-1", Made::empty, x -> x.tape(0, 0, -1), -14);
    }
}

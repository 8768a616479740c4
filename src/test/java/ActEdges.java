import java.util.Arrays;

/** The edges of promises 23 to 28: the image, acts, kinds and counts. */
final class ActEdges {
    private static final int MOST = Integer.MAX_VALUE, LEAST = Integer.MIN_VALUE;

    private final Edges e;

    private ActEdges(Edges e) {
        this.e = e;
    }

    static void run(Edges e) {
        ActEdges edges = new ActEdges(e);
        edges.image();
        edges.undo();
        edges.undoOfAll();
        edges.undoLeaves();
        edges.undoOfNone();
        edges.bodies();
        edges.cousins();
        edges.creditors();
        edges.weepers();
        edges.superBodies();
        edges.leftOn();
        edges.wrapping();
        edges.actRefused();
        edges.trace();
        edges.traceRefused();
        edges.taken();
        edges.takenRefused();
        edges.count();
        edges.countRefused();
    }

    // ---- promises 23 and 24

    private void image() {
        e.says(23, "THE IMAGE is taken: how many MOURNERS there are.");
        FuneralDebts x = Made.empty();
        e.due("none", x.image(), 0);
        for (int m = 1; m <= 6; m++) {
            x.mourner(0, 0, 0, 0);
            e.due("of " + m, x.image(), m);
        }
        x.away(3, true);
        e.due("of those AWAY, too", x.image(), 6);
        x.set(0, 1, 7);
        x.undo();
        e.due("the newest is taken", x.told(3) + x.of(0, 3), 8);
        FuneralDebts y = Made.two();
        y.image();
        y.debt(5);
        y.image();
        y.debt(6);
        y.undo();
        e.due("the newest alone", y.told(2), 5);
    }

    private void undo() {
        e.says(24, "All is as THE IMAGE: how many MOURNERS.");
        FuneralDebts x = Made.empty();
        x.image();
        for (int m = 0; m < 6; m++) {
            x.mourner(6, 9, 20, 9);
            x.row(m, 0, 9);
        }
        x.pass(20);
        x.away(0, true);
        e.due("of none", x.undo(), 0);
        e.due("nobody is there", x.of(0, 0), Edges.NO_SUCH);
        e.due("nobody is AWAY", x.told(3), 0);
        e.due("the first comes", x.mourner(6, 0, 0, 0), 0);
        e.due("with a ROW of its own", x.row(0, 0, 0), 0);
        e.due("with nothing PAID", x.of(0, 5), 0);
        e.due("and is not AWAY", x.of(0, 4), 0);
        e.due("again", x.undo(), 0);
        e.due("and again", x.undo(), 0);
        FuneralDebts full = Made.full();
        e.due("of six", full.undo(), 6);
        e.due("five rows", full.see(0, 0), Edges.FULL);
        e.due("eight rows", full.plan(0, 0), Edges.FULL);
        e.due("eight rows", full.book(0, 0), Edges.FULL);
        e.due("six", full.mourner(0, 0, 0, 0), Edges.FULL);
        FuneralDebts y = Made.full();
        y.see(-1, 0);
        y.plan(-1, 0);
        y.book(-1, 0);
        y.undo();
        e.due("what was emptied is full again", y.count(2) + y.count(3) + y.count(4), 21);
    }

    /** Makes two otherwise in all that an image holds. */
    private static void change(FuneralDebts x) {
        x.debt(7);
        x.set(0, 0, 20);
        x.set(1, 1, 8);
        x.row(0, 3, 1);
        x.pass(1);
        x.away(1, false);
        x.see(0, 7);
        x.plan(0, 0);
        x.book(0, 0);
        x.mourner(0, 0, 0, 0);
        Check.parish(x, "yard 9");
    }

    private void undoOfAll() {
        e.says(Edges.TERMS, "THE IMAGE: DEBT, MOURNERS with all that is theirs, DAY, SEEN, the PLAN,"
                + " the BOOK, which PARISH holds.");
        FuneralDebts x = Made.empty();
        x.mourner(6, 4, 3, 7);
        x.mourner(5, 8, 9, 2);
        x.row(0, 3, 6);
        Check.parish(x, "yard 1");
        x.pass(2);
        x.away(1, true);
        x.debt(50);
        int[] as = state(x);
        x.image();
        change(x);
        e.due("it was otherwise", Arrays.equals(as, state(x)) ? 1 : 0, 0);
        for (int times = 0; times < 3; times++) {
            e.due("of two", x.undo(), 2);
            int[] is = state(x);
            for (int i = 0; i < as.length; i++) {
                e.due("number " + i, is[i], as[i]);
            }
            change(x);
        }
    }

    private static int[] state(FuneralDebts x) {
        int[] state = new int[32];
        for (int what = 0; what < 6; what++) {
            state[what] = x.of(0, what);
            state[6 + what] = x.of(1, what);
        }
        for (int yard = 0; yard < 5; yard++) {
            state[12 + yard] = x.of(0, 10 + yard);
        }
        for (int what = 0; what < 8; what++) {
            state[17 + what] = x.told(what);
        }
        state[25] = x.count(0);
        state[26] = x.count(2);
        state[27] = x.count(3);
        state[28] = x.count(4);
        state[29] = x.ends(0);
        state[30] = x.ends(1);
        state[31] = x.looked();
        return state;
    }

    private void undoLeaves() {
        e.says(Edges.TERMS, "THE IMAGE: DEBT, MOURNERS with all that is theirs, DAY, SEEN, the PLAN,"
                + " the BOOK, which PARISH holds.");
        FuneralDebts x = Made.several(1, 6);
        x.image();
        Check.parish(x, "yard 9");
        Check.feed(x, "yard");
        x.act(0, 2, 1);
        x.tape(2, 3, 4);
        x.item(2, 3, -5);
        x.undo();
        e.due("none holds", x.told(1), 2);
        e.due("the parish is one all the same", x.count(1), 1);
        e.due("THE TEXT", x.count(5), 4);
        e.due("the bodies that ran", x.count(6), 12);
        e.due("THE TRACE", x.trace(0), 40);
        e.due("TAPES", x.read(2, 3), -5);
        e.due("THE TEXT goes on", Check.parish(x, " 5"), 1);
        x.image();
        Check.parish(x, "yard 6");
        Check.parish(x, "yard 7");
        x.undo();
        e.due("the second holds", x.told(1), 5);
        e.due("the next is the fifth", Check.parish(x, "yard 8"), 4);
        e.due("and holds", x.told(1), 8);
    }

    private void undoOfNone() {
        e.says(24, "STATE: there is none.");
        e.still("at first", Made::empty, x -> x.undo(), Edges.STATE);
        e.still("of two", Made::two, x -> x.undo(), Edges.STATE);
        e.due("one of nobody is one", Made::empty, x -> x.image() + x.undo(), 0);
    }

    // ---- promise 25

    /** Mourner 2 of a kind with v 3: an act's answer, and the bodies that run. */
    private void acts(int kind, int act, int x, int answer, int... bodies) {
        FuneralDebts f = Made.several(2, 6);
        f.mourner(kind, 3, 0, 0);
        f.act(0, 2, 1);
        String call = "kind " + kind + ", act " + act + " with " + x;
        e.due(call, f.act(2, act, x), answer);
        e.due(call + ": how many ran", f.count(6), bodies.length);
        for (int i = 0; i < bodies.length; i++) {
            e.due(call + ": body " + i, f.trace(i), bodies[i]);
        }
        e.due(call + ": no more", f.trace(bodies.length), Edges.NONE);
    }

    private void bodies() {
        e.says(Edges.TERMS, "BODIES: MOURNER: 10 stands: x + i.");
        acts(0, 0, 7, 9, 10);
        acts(0, 0, 0, 2, 10);
        e.says(Edges.TERMS, "11 sighs: stands(x) - v.");
        acts(0, 1, 7, 9 - 3, 11, 10);
        acts(2, 1, 7, 23 - 3, 11, 30, 10);
        e.says(Edges.TERMS, "12 tells: sighs(x) * 2.");
        acts(0, 2, 7, 12, 12, 11, 10);
        acts(2, 2, 7, 40, 12, 11, 30, 10);
    }

    private void cousins() {
        e.says(Edges.TERMS, "COUSIN: 20 sighs: super.sighs(x) ^ 6.");
        acts(1, 0, 7, 9, 10);
        acts(1, 1, 7, 6 ^ 6, 20, 11, 10);
        acts(1, 1, 8, 7 ^ 6, 20, 11, 10);
        acts(1, 2, 8, 2, 12, 20, 11, 10);
        e.says(Edges.TERMS, "VICAR: 50 stands: -super.stands(x).");
        acts(4, 0, 7, -9, 50, 10);
        e.says(Edges.TERMS, "51 sighs: super.sighs(x + 1).");
        acts(4, 1, 7, (-10 - 3) ^ 6, 51, 20, 11, 50, 10);
        acts(4, 2, 7, 2 * ((-10 - 3) ^ 6), 12, 51, 20, 11, 50, 10);
    }

    private void creditors() {
        e.says(Edges.TERMS, "CREDITOR: 30 stands: super.stands(x * 3).");
        acts(2, 0, 7, 23, 30, 10);
        acts(2, 0, -7, -19, 30, 10);
        e.says(Edges.TERMS, "BEARER: 60 tells: super.tells(x - i).");
        acts(5, 0, 7, 23, 30, 10);
        acts(5, 1, 7, 20, 11, 30, 10);
        acts(5, 2, 7, 2 * (3 * 5 + 2 - 3), 60, 12, 11, 30, 10);
    }

    private void weepers() {
        e.says(Edges.TERMS, "WEEPER: 40 tells: super.tells(x) + sighs(1).");
        acts(3, 0, 7, 9, 10);
        acts(3, 1, 7, 6, 11, 10);
        acts(3, 2, 7, 12 + 0, 40, 12, 11, 10, 11, 10);
        e.says(Edges.TERMS, "TOLD: 70 sighs: super.sighs(x) + super.stands(2).");
        acts(6, 1, 7, (9 ^ 3) - 3 + 4, 70, 11, 71, 10, 10);
        e.says(Edges.TERMS, "71 stands: super.stands(x) ^ v.");
        acts(6, 0, 7, 9 ^ 3, 71, 10);
        acts(6, 2, 7, 2 * ((9 ^ 3) - 3 + 4) + ((3 ^ 3) - 3 + 4),
                40, 12, 70, 11, 71, 10, 10, 70, 11, 71, 10, 10);
    }

    private void superBodies() {
        e.says(Edges.TERMS, "stands(..) and so on: the body of its KIND, or, if that has none, of"
                + " the next KIND above that has one;");
        acts(4, 2, 0, 2 * ((-3 - 3) ^ 6), 12, 51, 20, 11, 50, 10);
        acts(5, 0, 1, 5, 30, 10);
        acts(6, 2, 0, 2 * ((2 ^ 3) - 3 + 4) + ((3 ^ 3) - 3 + 4),
                40, 12, 70, 11, 71, 10, 10, 70, 11, 71, 10, 10);
        e.says(Edges.TERMS, "super.stands(..): so from the KIND above the body's on;");
        // The body of TOLD's stands goes on at MOURNER's, since WEEPER has none.
        acts(6, 0, 1, 3 ^ 3, 71, 10);
        // MOURNER's sighs, called by super, asks the KIND's own stands again.
        acts(4, 1, 0, (-3 - 3) ^ 6, 51, 20, 11, 50, 10);
    }

    private void leftOn() {
        e.says(Edges.TERMS, "all that stands in a body is done from the left on.");
        acts(3, 2, 1, 0, 40, 12, 11, 10, 11, 10);
        acts(6, 1, 1, (3 ^ 3) - 3 + 4, 70, 11, 71, 10, 10);
    }

    private void wrapping() {
        e.says(Edges.TERMS, "ACTS of a MOURNER with x (wrapping): 0 stands, 1 sighs, 2 tells;"
                + " i its number.");
        acts(0, 0, MOST, LEAST + 1, 10);
        acts(0, 0, LEAST, LEAST + 2, 10);
        acts(0, 1, LEAST, MOST, 11, 10);
        acts(0, 2, MOST, 2 * (LEAST + 1 - 3), 12, 11, 10);
        acts(0, 2, (1 << 30) + 1, LEAST, 12, 11, 10);
        acts(2, 0, MOST, MOST - 2 + 2, 30, 10);
        acts(2, 0, LEAST, LEAST + 2, 30, 10);
        acts(4, 0, MOST - 1, LEAST, 50, 10);
        acts(4, 1, MOST, ((LEAST - 2) - 3) ^ 6, 51, 20, 11, 50, 10);
        acts(5, 2, LEAST, 2 * (3 * (MOST - 1) + 2 - 3), 60, 12, 11, 30, 10);
        acts(6, 0, MOST, (LEAST + 1) ^ 3, 71, 10);
        acts(6, 1, LEAST + 1, ((LEAST + 3) ^ 3) - 3 + 4, 70, 11, 71, 10, 10);
        e.says(25, "An ACT (0 stands, 1 sighs, 2 tells) of a MOURNER with x.");
        for (int m = 0; m < 6; m++) {
            int number = m;
            e.due("i is " + m, () -> Made.several(6, 0), x -> x.act(number, 0, 10), 10 + m);
        }
        e.due("of one AWAY, too", Made::busy, x -> x.act(3, 0, 10), 33);
    }

    private void actRefused() {
        e.says(25, "0, and no TRACE then: no such MOURNER, act.");
        for (int m : Edges.beyond(3)) {
            actNone("mourner " + m, m, 0);
        }
        for (int act : Edges.beyond(2)) {
            actNone("act " + act, 0, act);
        }
        actNone("neither", 4, 3);
        e.due("nobody", Made::empty, x -> x.act(0, 0, 5), 0);
        e.due("6 of six", Made::full, x -> x.act(6, 0, 5), 0);
    }

    private void actNone(String call, int mourner, int act) {
        FuneralDebts x = Made.busy();
        e.due("bodies ran", x.count(6), 12);
        e.due(call, x.act(mourner, act, 5), 0);
        e.due(call + ": how many ran", x.count(6), 0);
        for (int i = 0; i < 12; i++) {
            e.due(call + ": body " + i, x.trace(i), Edges.NONE);
        }
        // But for THE TRACE nothing is otherwise.
        Edges.Making refused = () -> {
            FuneralDebts y = Made.busy();
            y.act(4, 0, 0);
            return y;
        };
        e.still(call, refused, y -> y.act(mourner, act, 5), 0);
    }

    // ---- promise 26

    private void trace() {
        e.says(Edges.TERMS, "THE TRACE: the numbers of the bodies that ran in the latest act(), as"
                + " they began; the first 20 are kept.");
        FuneralDebts x = Made.several(1, 6);
        int[] bodies = {40, 12, 70, 11, 71, 10, 10, 70, 11, 71, 10, 10};
        x.act(0, 2, 5);
        for (int i = 0; i < bodies.length; i++) {
            e.due("body " + i, x.trace(i), bodies[i]);
        }
        e.due("all of them", x.count(6), 12);
        x.act(0, 0, 5);
        e.due("the latest", x.trace(0), 71);
        e.due("the latest", x.trace(1), 10);
        e.due("not those before", x.trace(2), Edges.NONE);
        e.due("not those before", x.trace(11), Edges.NONE);
        e.due("how many", x.count(6), 2);
        e.says(26, "THE TRACE's i-th body.");
        e.still("asked", Made::busy, y -> y.trace(0), 40);
        e.still("asked", Made::busy, y -> y.trace(11), 10);
    }

    private void traceRefused() {
        e.says(26, "NONE.");
        for (int i : new int[] {-1, 12, 13, 19, 20, 21, LEAST, MOST}) {
            e.still("body " + i, Made::busy, x -> x.trace(i), Edges.NONE);
        }
        e.still("no act yet", Made::empty, x -> x.trace(0), Edges.NONE);
        e.still("no act yet", Made::two, x -> x.trace(0), Edges.NONE);
    }

    // ---- promise 27

    private void taken() {
        e.says(Edges.TERMS, "are of KINDS: 0 MOURNER; 1 COUSIN, 2 CREDITOR, 3 WEEPER under MOURNER;"
                + " 4 VICAR under COUSIN; 5 BEARER under CREDITOR; 6 TOLD under WEEPER;");
        int[][] takenFor = {{0}, {0, 1}, {0, 2}, {0, 3}, {0, 1, 4}, {0, 2, 5}, {0, 3, 6}};
        for (int kind = 0; kind <= 6; kind++) {
            int own = kind;
            for (int k = 0; k <= 6; k++) {
                int as = k;
                boolean so = Arrays.stream(takenFor[kind]).anyMatch(one -> one == as);
                e.due(kind + " for " + k, () -> Made.several(1, own), x -> x.taken(0, as),
                        so ? own : Edges.CAST);
            }
        }
        e.says(27, "A MOURNER taken for one of KIND k (0 .. 6), or one under that: its KIND.");
        e.still("TOLD for MOURNER", Made::busy, x -> x.taken(2, 0), 6);
        e.still("TOLD for WEEPER", Made::busy, x -> x.taken(2, 3), 6);
        e.still("one AWAY", Made::busy, x -> x.taken(3, 2), 2);
    }

    private void takenRefused() {
        e.says(27, "BAD: k;");
        for (int k : Edges.beyond(6)) {
            e.still("k " + k, Made::busy, x -> x.taken(0, k), Edges.BAD);
        }
        e.still("bad ahead of nothing", Made::busy, x -> x.taken(4, 7), Edges.BAD);
        e.says(27, "NOTHING: no such MOURNER;");
        for (int m : Edges.beyond(3)) {
            e.still("mourner " + m, Made::busy, x -> x.taken(m, 0), Edges.NOTHING);
            e.still("mourner " + m, Made::busy, x -> x.taken(m, 6), Edges.NOTHING);
        }
        e.says(27, "CAST.");
        e.still("MOURNER for COUSIN", Made::busy, x -> x.taken(0, 1), Edges.CAST);
        e.still("COUSIN for VICAR", Made::busy, x -> x.taken(1, 4), Edges.CAST);
        e.still("TOLD for CREDITOR", Made::busy, x -> x.taken(2, 2), Edges.CAST);
    }

    // ---- promise 28

    private void count() {
        e.says(28, "How many: 0 MOURNERS, 1 PARISHES, 2 SEEN, 3 of the PLAN, 4 of the BOOK,"
                + " 5 bytes of THE TEXT, 6 bodies that ran in the latest act() (all, kept or not).");
        int[] full = {6, 6, 5, 8, 8, 100, 0};
        int[] busy = {4, 2, 2, 3, 2, 10, 12};
        for (int what = 0; what <= 6; what++) {
            int w = what;
            e.still("at first " + w, Made::empty, x -> x.count(w), 0);
            e.still("full " + w, Made::full, x -> x.count(w), full[w]);
            e.still("some " + w, Made::busy, x -> x.count(w), busy[w]);
        }
    }

    private void countRefused() {
        e.says(28, "BAD.");
        for (int what : Edges.beyond(6)) {
            e.still("what " + what, Made::busy, x -> x.count(what), Edges.BAD);
        }
    }
}

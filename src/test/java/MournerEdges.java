/** The edges of promises 1 to 7, and of what the Terms say of mourners. */
final class MournerEdges {
    private final Edges e;

    private MournerEdges(Edges e) {
        this.e = e;
    }

    static void run(Edges e) {
        MournerEdges edges = new MournerEdges(e);
        edges.nobodyAtFirst();
        edges.noParishAtFirst();
        edges.termsAtFirst();
        edges.answers();
        edges.mourner();
        edges.mournerRefused();
        edges.of();
        edges.ofOneAway();
        edges.ofYards();
        edges.ofRefused();
        edges.set();
        edges.setRefused();
        edges.away();
        edges.debt();
        edges.row();
        edges.rowRefused();
    }

    // ---- promise 1

    private void nobodyAtFirst() {
        e.says(1, "No MOURNERS,");
        e.still("count(0)", Made::empty, x -> x.count(0), 0);
        e.still("of(0, 0)", Made::empty, x -> x.of(0, 0), Edges.NO_SUCH);
        e.still("set(0, 0, 0)", Made::empty, x -> x.set(0, 0, 0), Edges.NONE);
        e.still("away(0, true)", Made::empty, x -> x.away(0, true), Edges.NONE);
        e.still("row(0, 0, 0)", Made::empty, x -> x.row(0, 0, 0), Edges.NONE);
        e.still("on(0, 10)", Made::empty, x -> x.on(0, 10), Edges.NONE);
        e.still("on(0, 20)", Made::empty, x -> x.on(0, 20), Edges.NONE);
        e.still("kept(0, 0)", Made::empty, x -> x.kept(0, 0), Edges.NONE);
        e.still("see(0, 0)", Made::empty, x -> x.see(0, 0), Edges.NONE);
        e.still("can(0, 0)", Made::empty, x -> x.can(0, 0), Edges.NONE);
        e.still("odds(0, 0)", Made::empty, x -> x.odds(0, 0), Edges.NO);
        e.still("mean(0)", Made::empty, x -> x.mean(0), Edges.NO);
        e.still("plan(1, 0)", Made::empty, x -> x.plan(1, 0), Edges.NONE);
        e.still("book(0, 0)", Made::empty, x -> x.book(0, 0), Edges.NONE);
        e.still("act(0, 0, 1)", Made::empty, x -> x.act(0, 0, 1), 0);
        e.still("taken(0, 0)", Made::empty, x -> x.taken(0, 0), Edges.NOTHING);
        e.still("told(3)", Made::empty, x -> x.told(3), 0);
        e.still("told(4)", Made::empty, x -> x.told(4), 0);
        e.still("told(5)", Made::empty, x -> x.told(5), 0);
        e.still("told(6)", Made::empty, x -> x.told(6), 1000);
        e.still("told(7)", Made::empty, x -> x.told(7), 0);
        e.still("ends(0)", Made::empty, x -> x.ends(0), 0);
        e.still("ends(1)", Made::empty, x -> x.ends(1), 0);
        e.still("looked()", Made::empty, x -> x.looked(), Edges.NEVER);
        e.due("the first that comes", Made::empty, x -> x.mourner(0, 0, 0, 0), 0);
    }

    private void noParishAtFirst() {
        e.says(1, "no PARISH.");
        e.still("count(1)", Made::empty, x -> x.count(1), 0);
        e.still("FALL", Made::empty, x -> x.told(1), 2);
        e.still("bytes of THE TEXT", Made::empty, x -> x.count(5), 0);
        e.due("the first that comes", Made::empty, x -> Check.parish(x, "yard 1"), 0);
        e.says(Edges.TERMS, "without one there are no CLAUSES.");
        for (int yard = 0; yard <= 9; yard++) {
            FuneralDebts x = Made.two();
            e.due("rate at " + yard, x.of(0, 10 + yard), 20 - 2 * yard);
        }
    }

    // ---- what the Terms say is so at first

    private void termsAtFirst() {
        e.says(Edges.TERMS, "DEBT: 0 .. 999 (100 at first).");
        e.due("at first", Made::empty, x -> x.debt(0), 100);
        e.due("0", Made::two, x -> x.debt(7) - x.debt(0) + x.told(2), 100 - 7);
        e.due("999", Made::two, x -> x.debt(999) + x.told(2), 100 + 999);
        e.says(Edges.TERMS, "AWAY, or not (not at first),");
        e.due("A", Made::two, x -> x.of(0, 4), 0);
        e.due("B", Made::two, x -> x.away(1, true), 0);
        e.says(Edges.TERMS, "PAID (0 .. 999999; 0 at first).");
        e.due("A", Made::two, x -> x.of(0, 5), 0);
        e.due("the most", DayEdges::richest, x -> x.of(0, 5), 999999);
        e.says(Edges.TERMS, "DAY: 0 at first.");
        e.due("DAY", Made::empty, x -> x.told(0), 0);
        e.says(Edges.TERMS, "MOURNERS 0 .. 5, as they come,");
        FuneralDebts x = Made.empty();
        for (int number = 0; number <= 5; number++) {
            e.due("the next", x.mourner(number, 0, 0, 0), number);
            e.due("its kind", x.of(number, 0), number);
        }
        e.due("a seventh", x.mourner(6, 0, 0, 0), Edges.FULL);
        e.says(Edges.TERMS, "with a number v (0 .. 9), a LOVE (0 .. 20), a YARD (0 .. 9),");
        holds(0, 0, 0);
        holds(9, 20, 9);
    }

    private void holds(int v, int love, int yard) {
        FuneralDebts x = Made.alone(0, v, love, yard, "");
        e.due("v", x.of(0, 1), v);
        e.due("love", x.of(0, 2), love);
        e.due("yard", x.of(0, 3), yard);
    }

    private void answers() {
        e.says(Edges.TERMS, "Answers: NONE (-1) no such number; BAD (-2) a number is not as told;"
                + " STATE (-3) as told; FULL (-4);");
        e.due("NONE", FuneralDebts.NONE, -1);
        e.due("BAD", FuneralDebts.BAD, -2);
        e.due("STATE", FuneralDebts.STATE, -3);
        e.due("FULL", FuneralDebts.FULL, -4);
        e.says(Edges.TERMS, "The constants: NO = Long.MIN_VALUE: There is no such number.");
        e.due("NO", FuneralDebts.NO, -9223372036854775807L - 1);
    }

    // ---- promise 2

    private void mourner() {
        e.says(2, "A MOURNER at a YARD: its number.");
        FuneralDebts x = Made.empty();
        int[][] come = {{0, 0, 0, 0}, {6, 9, 20, 9}, {1, 0, 20, 0}, {2, 9, 0, 9}, {5, 4, 7, 3}};
        for (int number = 0; number < come.length; number++) {
            int[] c = come[number];
            e.due("comes", x.mourner(c[0], c[1], c[2], c[3]), number);
            for (int what = 0; what < 4; what++) {
                e.due(number + " has", x.of(number, what), c[what]);
            }
            e.due("how many", x.count(0), number + 1);
        }
    }

    private void mournerRefused() {
        e.says(2, "NONE: kind, yard (0 .. 9);");
        for (int kind : Edges.beyond(6)) {
            e.still("kind " + kind, Made::busy, x -> x.mourner(kind, 0, 0, 0), Edges.NONE);
        }
        for (int yard : Edges.beyond(9)) {
            e.still("yard " + yard, Made::busy, x -> x.mourner(0, 0, 0, yard), Edges.NONE);
        }
        e.says(2, "BAD: v, love;");
        for (int v : Edges.beyond(9)) {
            e.still("v " + v, Made::busy, x -> x.mourner(0, v, 0, 0), Edges.BAD);
        }
        for (int love : Edges.beyond(20)) {
            e.still("love " + love, Made::busy, x -> x.mourner(0, 0, love, 0), Edges.BAD);
        }
        e.says(2, "FULL: 6.");
        e.still("a seventh", Made::full, x -> x.mourner(0, 0, 0, 0), Edges.FULL);
        e.due("the sixth", () -> Made.several(5, 0), x -> x.mourner(0, 0, 0, 0), 5);
        e.says(Edges.TERMS, "the first that a call's words name.");
        e.still("kind, v", Made::busy, x -> x.mourner(7, 10, 0, 0), Edges.NONE);
        e.still("yard, love", Made::busy, x -> x.mourner(0, 0, 21, 10), Edges.NONE);
        e.still("kind, full", Made::full, x -> x.mourner(7, 0, 0, 0), Edges.NONE);
        e.still("yard, full", Made::full, x -> x.mourner(0, 0, 0, -1), Edges.NONE);
        e.still("v, full", Made::full, x -> x.mourner(0, 10, 0, 0), Edges.BAD);
        e.still("love, full", Made::full, x -> x.mourner(0, 0, -1, 0), Edges.BAD);
    }

    // ---- promise 3

    private void of() {
        e.says(3, "Of a MOURNER what 0 KIND, 1 v, 2 LOVE, 3 YARD, 4 whether it is AWAY, 5 PAID,");
        int[] first = {0, 3, 10, 0, 0, 75};
        int[] second = {1, 5, 1, 9, 1, 25};
        for (int what = 0; what <= 5; what++) {
            int w = what;
            e.still("A's " + w, MournerEdges::oneDayOn, x -> x.of(0, w), first[w]);
            e.still("B's " + w, MournerEdges::oneDayOn, x -> x.of(1, w), second[w]);
        }
    }

    /** A stays, B goes from 2 to 9, both pay; then B is away. */
    private static FuneralDebts oneDayOn() {
        FuneralDebts x = Made.two();
        x.pass(1);
        x.away(1, true);
        return x;
    }

    private void ofOneAway() {
        e.says(3, "6 its SHARE (AWAY: 0),");
        e.still("A's share", Made::two, x -> x.of(0, 6), 48);
        e.still("B's share", Made::two, x -> x.of(1, 6), 52);
        e.still("of one away", MournerEdges::gone, x -> x.of(1, 6), 0);
        e.still("of the other", MournerEdges::gone, x -> x.of(0, 6), 100);
        e.says(3, "7 BEST (by how it would stand, if it were not AWAY),");
        e.still("A's best", Made::two, x -> x.of(0, 7), 0);
        e.still("B's best", Made::two, x -> x.of(1, 7), 9);
        // Were it AWAY, it would pay nothing anywhere, and love alone would send it to 0.
        e.still("best of one away", MournerEdges::gone, x -> x.of(1, 7), 9);
    }

    /** As two(), but B is away. */
    private static FuneralDebts gone() {
        FuneralDebts x = Made.two();
        x.away(1, true);
        return x;
    }

    private void ofYards() {
        e.says(3, "10 and y RATE at YARD y,");
        for (int yard = 0; yard <= 9; yard++) {
            int y = yard;
            e.still("A at " + y, Made::two, x -> x.of(0, 10 + y), 20 - 2 * y);
            e.still("B, away, at " + y, MournerEdges::gone, x -> x.of(1, 10 + y), 25 - 2 * y);
        }
        e.says(3, "20 and y WORTH of YARD y (0 .. 9; likewise).");
        e.still("of 0 to A", Made::two, x -> x.of(0, 20), 100 - 48);
        e.still("of 9 to A", Made::two, x -> x.of(0, 29), 10 - 8);
        e.still("of 2 to B", Made::two, x -> x.of(1, 22), 8 - 52);
        e.still("of 9 to B", Made::two, x -> x.of(1, 29), 1 - 25);
        e.still("of 2 to B, away", MournerEdges::gone, x -> x.of(1, 22), 8 - 52);
        e.still("of 0 to B, away", MournerEdges::gone, x -> x.of(1, 20), 10 - 56);
        e.still("of 9 to B, away", MournerEdges::gone, x -> x.of(1, 29), 1 - 25);
        e.still("of 0 to A, B being away", MournerEdges::gone, x -> x.of(0, 20), 100 - 100);
    }

    private void ofRefused() {
        e.says(3, "-10001: NONE.");
        int[] whats = {-1, 8, 9, 30, 31, Integer.MIN_VALUE, Integer.MAX_VALUE};
        for (int what : whats) {
            e.still("what " + what, Made::busy, x -> x.of(0, what), Edges.NO_SUCH);
        }
        int[] known = {0, 1, 2, 3, 4, 5, 6, 7, 10, 19, 20, 29};
        for (int what : known) {
            for (int m : Edges.beyond(3)) {
                e.due(m + "'s " + what, Made::busy, x -> x.of(m, what), Edges.NO_SUCH);
            }
        }
        e.still("mourner 6 of six", Made::full, x -> x.of(6, 0), Edges.NO_SUCH);
        e.due("mourner 5 of six", Made::full, x -> x.of(5, 0), 6);
        e.says(Edges.TERMS, "Where it may be below 0, -10001 stands for NONE.");
        // A RATE of -1 is one, and no refusal.
        e.still("a rate of -1", () -> Made.alone(0, 0, 0, 0, "less 21 p=0"), x -> x.of(0, 10), -1);
        e.still("a worth of -1", MournerEdges::worthLess, x -> x.of(0, 29), -1);
        e.still("nobody's rate", Made::two, x -> x.of(2, 10), Edges.NO_SUCH);
    }

    private static FuneralDebts worthLess() {
        FuneralDebts x = Made.several(1, 0);
        x.debt(1);
        return x;
    }

    // ---- promise 4

    private void set() {
        e.says(4, "Of a MOURNER 0 LOVE (0 .. 20), 1 YARD (0 .. 9) becomes n: what it was.");
        FuneralDebts x = Made.two();
        int[] loves = {20, 0, 7};
        int[] yards = {9, 0, 4};
        int love = 10;
        int yard = 0;
        for (int i = 0; i < loves.length; i++) {
            e.due("love", x.set(0, 0, loves[i]), love);
            e.due("yard", x.set(0, 1, yards[i]), yard);
            love = loves[i];
            yard = yards[i];
            e.due("love is", x.of(0, 2), love);
            e.due("yard is", x.of(0, 3), yard);
        }
        e.due("the other's love", x.of(1, 2), 1);
        e.due("the other's yard", x.of(1, 3), 2);
        e.due("of one away, too", MournerEdges::gone, z -> z.set(1, 1, 3) + 10 * z.of(1, 3), 32);
    }

    private void setRefused() {
        e.says(4, "NONE: mourner, what;");
        for (int m : Edges.beyond(3)) {
            e.still("love of " + m, Made::busy, x -> x.set(m, 0, 0), Edges.NONE);
            e.still("yard of " + m, Made::busy, x -> x.set(m, 1, 0), Edges.NONE);
        }
        for (int what : Edges.beyond(1)) {
            e.still("what " + what, Made::busy, x -> x.set(0, what, 1), Edges.NONE);
        }
        e.still("none ahead of bad", Made::busy, x -> x.set(4, 0, 21), Edges.NONE);
        e.still("none ahead of bad", Made::busy, x -> x.set(0, 2, -1), Edges.NONE);
        e.says(4, "BAD.");
        for (int n : Edges.beyond(20)) {
            e.still("love " + n, Made::busy, x -> x.set(0, 0, n), Edges.BAD);
        }
        for (int n : Edges.beyond(9)) {
            e.still("yard " + n, Made::busy, x -> x.set(0, 1, n), Edges.BAD);
        }
    }

    // ---- promises 5 and 6

    private void away() {
        e.says(5, "A MOURNER is AWAY, or not: whether it was.");
        FuneralDebts x = Made.several(6, 0);
        for (int m : new int[] {0, 5, 2}) {
            e.due("was not", x.away(m, false), 0);
            e.due("goes", x.away(m, true), 0);
            e.due("is", x.of(m, 4), 1);
            e.due("its bit", x.told(3), 1 << m);
            e.due("was", x.away(m, true), 1);
            e.due("still is", x.told(3), 1 << m);
            e.due("comes", x.away(m, false), 1);
            e.due("no bit", x.told(3), 0);
        }
        e.says(5, "NONE.");
        for (int m : Edges.beyond(3)) {
            e.still("goes " + m, Made::busy, z -> z.away(m, true), Edges.NONE);
            e.still("comes " + m, Made::busy, z -> z.away(m, false), Edges.NONE);
        }
        for (int m : new int[] {6, 31, 32, 33}) {
            e.still("goes " + m + " of six", Made::full, z -> z.away(m, true), Edges.NONE);
        }
    }

    private void debt() {
        e.says(6, "DEBT becomes n (0 .. 999): what it was.");
        FuneralDebts x = Made.two();
        e.due("0", x.debt(0), 100);
        e.due("is", x.told(2), 0);
        e.due("A pays", x.of(0, 6), 0);
        e.due("999", x.debt(999), 0);
        e.due("is", x.told(2), 999);
        e.due("A pays 999 * 20 / 41", x.of(0, 6), 487);
        e.due("B pays the rest", x.of(1, 6), 512);
        e.due("was", x.debt(1), 999);
        e.says(6, "BAD.");
        for (int n : Edges.beyond(999)) {
            e.still("" + n, Made::busy, z -> z.debt(n), Edges.BAD);
        }
    }

    // ---- promise 7

    private void row() {
        e.says(7, "The ROW of a TOLD one becomes n (0 .. 9) for YARDS modulo 4 being part:"
                + " what it was.");
        for (int part = 0; part <= 3; part++) {
            FuneralDebts x = Made.several(2, 6);
            e.due("0 at first", x.row(0, part, 9), 0);
            e.due("was 9", x.row(0, part, 0), 9);
            e.due("was 0", x.row(0, part, 5), 0);
            for (int yard = 0; yard <= 9; yard++) {
                int wept = yard >= 5 ? 1 : 20 - 2 * yard;
                String at = "part " + part + ", rate at " + yard;
                e.due(at, x.of(0, 10 + yard), wept + (yard % 4 == part ? 5 : 0));
                e.due(at + " of the other", x.of(1, 10 + yard), wept);
            }
        }
        FuneralDebts six = Made.several(6, 6);
        for (int m = 0; m < 6; m++) {
            six.row(m, 3, m + 1);
        }
        for (int m = 0; m < 6; m++) {
            e.due("each has its own", six.row(m, 3, 0), m + 1);
        }
    }

    private void rowRefused() {
        e.says(7, "NONE: mourner, part;");
        for (int m : Edges.beyond(3)) {
            e.still("mourner " + m, Made::busy, x -> x.row(m, 0, 1), Edges.NONE);
        }
        for (int part : Edges.beyond(3)) {
            e.still("part " + part, Made::busy, x -> x.row(2, part, 1), Edges.NONE);
        }
        e.still("none ahead of bad", Made::busy, x -> x.row(2, 4, 10), Edges.NONE);
        e.still("none ahead of state", Made::busy, x -> x.row(0, 4, 1), Edges.NONE);
        e.says(7, "BAD;");
        for (int n : Edges.beyond(9)) {
            e.still("n " + n, Made::busy, x -> x.row(2, 0, n), Edges.BAD);
        }
        e.still("bad ahead of state", Made::busy, x -> x.row(0, 0, 10), Edges.BAD);
        e.says(7, "STATE: another KIND.");
        for (int kind = 0; kind <= 5; kind++) {
            int k = kind;
            e.still("kind " + k, () -> Made.several(1, k), x -> x.row(0, 0, 0), Edges.STATE);
            e.still("kind " + k, () -> Made.several(1, k), x -> x.row(0, 3, 9), Edges.STATE);
        }
    }
}

/** The edges of promises 18 to 21: plans and books. */
final class PlanEdges {
    private final Edges e;

    private PlanEdges(Edges e) {
        this.e = e;
    }

    static void run(Edges e) {
        PlanEdges edges = new PlanEdges(e);
        edges.plan();
        edges.planEmpty();
        edges.planRefused();
        edges.planWhat();
        edges.ends();
        edges.endsRefused();
        edges.book();
        edges.bookEmpty();
        edges.bookRefused();
        edges.looked();
        edges.lookedNone();
    }

    // ---- promise 18

    private void plan() {
        e.says(18, "A row comes to the PLAN: how many there are");
        FuneralDebts x = Made.several(6, 0);
        for (int n = 1; n <= 8; n++) {
            e.due("row " + n, x.plan(n % 4, n % 6), n);
            e.due("how many", x.count(3), n);
        }
        e.due("a ninth", x.plan(0, 0), Edges.FULL);
        e.due("a day needs no mourner", Made::empty, y -> y.plan(0, 0), 1);
    }

    private void planEmpty() {
        e.says(18, "(what -1: it is empty then, 0, whatever the rest is).");
        for (int m : new int[] {0, 5, -1, 6, Integer.MIN_VALUE, Integer.MAX_VALUE}) {
            FuneralDebts x = Made.full();
            e.due("empty, " + m, x.plan(-1, m), 0);
            e.due("no rows", x.count(3), 0);
            e.due("ends as it is", x.ends(1), 0 + 1 + 2 + 3 + 4 + 5);
            e.due("the first again", x.plan(0, 0), 1);
            e.due("ends of a day alone", x.ends(0), 100);
            e.still("of a new one, " + m, Made::empty, y -> y.plan(-1, m), 0);
        }
    }

    private void planRefused() {
        e.says(18, "NONE: what (0 .. 3), mourner (but by 0);");
        for (int what : Edges.beyondButOne(3)) {
            e.still("what " + what, Made::busy, x -> x.plan(what, 0), Edges.NONE);
            e.still("none ahead of full", Made::full, x -> x.plan(what, 0), Edges.NONE);
        }
        for (int m : Edges.beyond(3)) {
            for (int what = 1; what <= 3; what++) {
                int w = what;
                e.still("what " + w + " of " + m, Made::busy, x -> x.plan(w, m), Edges.NONE);
            }
            e.due("a day of " + m, Made::busy, x -> x.plan(0, m), 4);
            e.due("ends of it", Made::busy, x -> x.plan(0, m) + x.ends(0), 4 + oneDayMore());
        }
        e.still("none ahead of full", Made::full, x -> x.plan(1, 6), Edges.NONE);
        e.says(18, "FULL: 8.");
        for (int what = 0; what <= 3; what++) {
            int w = what;
            e.still("a ninth of " + w, Made::full, x -> x.plan(w, 0), Edges.FULL);
        }
        e.still("a ninth day of nobody", Made::full, x -> x.plan(0, 99), Edges.FULL);
    }

    private static int oneDayMore() {
        FuneralDebts x = Made.busy();
        x.plan(0, 0);
        return x.ends(0);
    }

    private void planWhat() {
        e.says(Edges.TERMS, "A PLAN told by hand: what goes (0 a DAY, 1 one is AWAY, 2 one is not,"
                + " 3 one stands at YARD 0; 8 rows at most):");
        FuneralDebts x = Made.several(2, 0);
        x.set(0, 1, 5);
        x.set(1, 1, 7);
        x.set(1, 0, 1);
        x.away(0, true);
        e.due("as it is", x.ends(1), 12);
        x.plan(3, 0);
        e.due("one that is AWAY stands at 0", x.ends(1), 7);
        x.plan(0, 0);
        e.due("the other goes to 0, alone", x.ends(1), 0);
        e.due("and pays 100", x.ends(0), 100);
        x.plan(1, 1);
        x.plan(0, 0);
        e.due("nobody is there to pay", x.ends(0), 100);
        x.plan(1, 1);
        x.plan(2, 0);
        x.plan(0, 0);
        e.due("one is back", x.ends(0), 200);
        x.plan(2, 1);
        e.due("eight rows", x.count(3), 8);
        e.due("the last of eight", x.ends(0), 200);
        e.due("a ninth", x.plan(0, 0), Edges.FULL);
        e.due("nothing of it was", x.told(0) + x.told(3) + x.of(0, 5) + x.of(1, 5), 1);
        FuneralDebts z = Made.several(1, 0);
        z.plan(2, 0);
        z.plan(0, 0);
        e.due("one that is there already", z.ends(0), 100);
        z.plan(1, 0);
        z.plan(1, 0);
        z.plan(0, 0);
        e.due("one that is AWAY already", z.ends(0), 100);
        z.plan(2, 0);
        z.plan(2, 0);
        z.plan(0, 0);
        e.due("one that is back already", z.ends(0), 200);
        // The eighth row counts.
        FuneralDebts y = Made.several(1, 0);
        for (int n = 1; n <= 8; n++) {
            y.plan(0, 0);
            e.due("days " + n, y.ends(0), 100 * n);
        }
    }

    // ---- promise 19

    private void ends() {
        e.says(Edges.TERMS, "ENDS: PAID of all, together; YARDS of all, together.");
        FuneralDebts x = Made.empty();
        for (int m = 0; m < 6; m++) {
            x.mourner(0, 0, 0, 9);
        }
        e.due("six at 9", x.ends(1), 54);
        e.due("nothing paid", x.ends(0), 0);
        x.debt(6);
        x.pass(2);
        e.due("twice 6", x.ends(0), 12);
        x.away(0, true);
        e.due("of those AWAY, too", x.ends(1), 54);
        e.due("of those AWAY, too", x.ends(0), 12);
        x.plan(0, 0);
        e.due("on from there", x.ends(0), 18);
        e.says(19, "ENDS: what 0 PAID, 1 YARDS.");
        e.still("no plan, no mourners", Made::empty, y -> y.ends(0), 0);
        e.still("no plan, no mourners", Made::empty, y -> y.ends(1), 0);
        e.still("no plan", Made::two, y -> y.ends(1), 2);
        e.still("asked of a plan", Made::busy, y -> y.ends(0), oneDayOf());
        e.still("asked of a plan", Made::busy, y -> y.ends(1), yardsOf());
        e.due("beyond 999999", PlanEdges::rich, y -> y.ends(0), 999999 + 8 * 999);
        e.due("day 7 comes, too", PlanEdges::vicars, y -> y.ends(0), 100 + 700);
    }

    private static FuneralDebts rich() {
        FuneralDebts x = DayEdges.richest();
        for (int n = 0; n < 8; n++) {
            x.plan(0, 0);
        }
        return x;
    }

    /** A vicar paid on day 1, and is to pay on days 2 to 9, but for 7. */
    private static FuneralDebts vicars() {
        FuneralDebts x = Made.several(1, 4);
        x.pass(2);
        for (int n = 0; n < 8; n++) {
            x.plan(0, 0);
        }
        return x;
    }

    /** What busy() has planned, done one by one: a day, B away, 2 at yard 0. */
    private static FuneralDebts doneAsPlanned() {
        FuneralDebts x = Made.busy();
        x.pass(1);
        x.away(1, true);
        x.set(2, 1, 0);
        return x;
    }

    private static int oneDayOf() {
        FuneralDebts x = doneAsPlanned();
        return x.of(0, 5) + x.of(1, 5) + x.of(2, 5) + x.of(3, 5);
    }

    private static int yardsOf() {
        FuneralDebts x = doneAsPlanned();
        return x.of(0, 3) + x.of(1, 3) + x.of(2, 3) + x.of(3, 3);
    }

    private void endsRefused() {
        e.says(19, "NONE.");
        for (int what : Edges.beyond(1)) {
            e.still("what " + what, Made::busy, x -> x.ends(what), Edges.NONE);
        }
    }

    // ---- promise 20

    private void book() {
        e.says(Edges.TERMS, "A BOOK told by hand: MOURNERS, YARDS (8 at most):");
        FuneralDebts x = Made.several(6, 0);
        for (int n = 1; n <= 8; n++) {
            e.due("row " + n, x.book(n % 6, n == 8 ? 0 : 9), n);
            e.due("how many", x.count(4), n);
        }
        e.due("a ninth", x.book(0, 0), Edges.FULL);
        e.says(20, "A row comes to the BOOK: how many there are");
        e.due("the first", Made::two, y -> y.book(1, 2), 1);
        e.due("the same twice", Made::two, y -> y.book(1, 2) + y.book(1, 2), 3);
        e.due("of one AWAY, too", Made::busy, y -> y.book(3, 0), 3);
    }

    private void bookEmpty() {
        e.says(20, "(mourner -1: it is empty then, 0, whatever the rest is).");
        for (int yard : new int[] {0, 9, -1, 10, Integer.MIN_VALUE, Integer.MAX_VALUE}) {
            FuneralDebts x = Made.full();
            e.due("empty, " + yard, x.book(-1, yard), 0);
            e.due("no rows", x.count(4), 0);
            e.due("looked", x.looked(), Edges.NEVER);
            e.due("the first again", x.book(0, 1), 1);
            e.due("looked at that alone", x.looked(), 0);
            e.still("of a new one, " + yard, Made::empty, y -> y.book(-1, yard), 0);
        }
    }

    private void bookRefused() {
        e.says(20, "NONE: mourner, yard;");
        for (int m : Edges.beyondButOne(3)) {
            e.still("mourner " + m, Made::busy, x -> x.book(m, 0), Edges.NONE);
        }
        for (int yard : Edges.beyond(9)) {
            e.still("yard " + yard, Made::busy, x -> x.book(0, yard), Edges.NONE);
            e.still("none ahead of full", Made::full, x -> x.book(0, yard), Edges.NONE);
        }
        e.still("none ahead of full", Made::full, x -> x.book(6, 0), Edges.NONE);
        e.says(20, "FULL: 8.");
        e.still("a ninth", Made::full, x -> x.book(0, 0), Edges.FULL);
    }

    // ---- promise 21

    private void looked() {
        e.says(Edges.TERMS, "LOOKED at: the number (from 0) of the first of these rows by which it"
                + " is otherwise now");
        for (int other = 0; other < 8; other++) {
            FuneralDebts x = Made.several(6, 0);
            for (int n = 0; n < 8; n++) {
                x.set(n % 6, 1, n % 6);
                x.book(n % 6, n == other || n == 7 ? 9 : n % 6);
            }
            e.due("the first is " + other, x.looked(), other);
        }
        FuneralDebts y = Made.two();
        y.book(0, 0);
        y.book(1, 2);
        y.book(1, 3);
        e.due("the third", y.looked(), 2);
        y.set(1, 1, 3);
        e.due("now the second", y.looked(), 1);
        y.set(0, 1, 1);
        e.due("now the first", y.looked(), 0);
        y.away(0, true);
        e.due("of one AWAY, too", y.looked(), 0);
    }

    private void lookedNone() {
        e.says(Edges.TERMS, "(-5: none).");
        e.still("all are so", PlanEdges::booked, x -> x.looked(), Edges.NEVER);
        e.says(21, "LOOKED at; -5.");
        e.still("an empty book", Made::empty, x -> x.looked(), Edges.NEVER);
        e.still("an empty book", Made::two, x -> x.looked(), Edges.NEVER);
    }

    private static FuneralDebts booked() {
        FuneralDebts x = Made.two();
        for (int n = 0; n < 8; n++) {
            x.book(n % 2, n % 2 * 2);
        }
        return x;
    }
}

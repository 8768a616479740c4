/** The edges of promises 10 to 13, and of what the Terms say of DAYS. */
final class DayEdges {
    private final Edges e;

    private DayEdges(Edges e) {
        this.e = e;
    }

    static void run(Edges e) {
        DayEdges edges = new DayEdges(e);
        edges.moves();
        edges.pays();
        edges.dayIsOneMore();
        edges.told();
        edges.toldRefused();
        edges.still();
        edges.stillByDays();
        edges.gains();
        edges.gainsOnTheSameDay();
        edges.pass();
        edges.passTooFar();
        edges.on();
        edges.onRefused();
        edges.asked();
        edges.beyond();
        edges.kept();
        edges.keptOfSeveral();
        edges.keptNone();
        edges.keptRefused();
    }

    /** Alone, it has paid the most that there is. */
    static FuneralDebts richest() {
        FuneralDebts x = Made.several(1, 0);
        x.debt(999);
        for (int n = 0; n < 51; n++) {
            x.pass(20);
        }
        return x;
    }

    /** On DAY 9980, in 499 calls: there are twelve more to make and to ask with. */
    private static void goFar(FuneralDebts x) {
        for (int n = 0; n < 499; n++) {
            x.pass(20);
        }
    }

    /** These two never stand still: each goes where the other's last move makes it best. */
    private static FuneralDebts restless() {
        FuneralDebts x = Made.empty();
        x.mourner(2, 0, 4, 7);
        x.mourner(0, 0, 5, 8);
        return x;
    }

    // ---- a day

    private void moves() {
        e.says(Edges.TERMS, "A DAY goes: one behind the other by number, each one not AWAY goes to"
                + " stand at its BEST, if WORTH is greater there than where it stands.");
        // All at once both would go to 9; the last first, the first would stay at 0.
        FuneralDebts x = Made.empty();
        x.mourner(0, 0, 5, 3);
        x.mourner(0, 0, 5, 3);
        x.pass(1);
        e.due("the first", x.of(0, 3), 9);
        e.due("the second, by where the first is then", x.of(1, 3), 0);
        FuneralDebts y = Made.alone(0, 0, 0, 4, "");
        y.pass(1);
        e.due("as good as the best", y.of(0, 3), 4);
        y.set(0, 0, 1);
        y.pass(1);
        e.due("better", y.of(0, 3), 0);
        FuneralDebts z = Made.alone(0, 0, 20, 9, "");
        z.away(0, true);
        z.pass(20);
        e.due("one away stays", z.of(0, 3), 9);
        z.away(0, false);
        z.pass(1);
        e.due("one that is back goes", z.of(0, 3), 0);
    }

    private void pays() {
        e.says(Edges.TERMS, "Then each one not AWAY PAYS (PAID is that more; 999999 at most).");
        FuneralDebts x = Made.two();
        x.pass(1);
        // B has gone to 9, and has 7 there: 2000 / 27 and 700 / 27, and 1 is left for A.
        e.due("A paid by where B is then", x.of(0, 5), 75);
        e.due("B paid", x.of(1, 5), 25);
        x.pass(1);
        e.due("A paid more", x.of(0, 5), 150);
        x.away(0, true);
        x.pass(1);
        e.due("one away paid nothing", x.of(0, 5), 150);
        e.due("B paid all", x.of(1, 5), 150);
        FuneralDebts y = Made.several(1, 0);
        y.debt(999);
        for (int n = 0; n < 50; n++) {
            y.pass(20);
        }
        e.due("1000 days", y.of(0, 5), 999000);
        y.pass(1);
        e.due("999999", y.of(0, 5), 999999);
        y.pass(1);
        e.due("999999 at most", y.of(0, 5), 999999);
        y.pass(20);
        e.due("and so on", y.of(0, 5), 999999);
        FuneralDebts z = Made.several(1, 0);
        z.debt(998);
        for (int n = 0; n < 50; n++) {
            z.pass(20);
        }
        z.pass(2);
        e.due("998 days and 2", z.of(0, 5), 998 * 1002);
        z.debt(3);
        z.pass(1);
        e.due("all but nothing", z.of(0, 5), 999999);
        z.debt(1);
        z.pass(1);
        e.due("at most", z.of(0, 5), 999999);
    }

    private void dayIsOneMore() {
        e.says(Edges.TERMS, "DAY is 1 more.");
        FuneralDebts x = Made.several(1, 4);
        e.due("DAY", x.told(0), 0);
        x.pass(1);
        e.due("DAY", x.told(0), 1);
        e.due("a vicar pays nothing on day 0", x.of(0, 5), 0);
        x.pass(1);
        e.due("but on day 1", x.of(0, 5), 100);
        x.pass(5);
        e.due("to 6", x.of(0, 5), 600);
        x.pass(1);
        e.due("and not on 7", x.of(0, 5), 600);
        e.due("without mourners", Made::empty, y -> y.pass(20) + y.told(0), 40);
    }

    // ---- promise 10

    private void told() {
        e.says(10, "What 0 DAY, 1 FALL, 2 DEBT, 3 which are AWAY (bits),");
        e.still("DAY", Made::busy, x -> x.told(0), 2);
        e.still("FALL", Made::busy, x -> x.told(1), 2);
        e.still("DEBT", Made::busy, x -> x.told(2), 321);
        e.still("AWAY", Made::busy, x -> x.told(3), 8);
        FuneralDebts x = Made.several(6, 0);
        int bits = 0;
        for (int m : new int[] {5, 0, 3, 1, 4, 2}) {
            x.away(m, true);
            bits |= 1 << m;
            e.due("with " + m, x.told(3), bits);
        }
        e.due("all", x.told(3), 63);
    }

    private void toldRefused() {
        e.says(10, "NONE.");
        for (int what : Edges.beyond(7)) {
            e.still("what " + what, Made::busy, x -> x.told(what), Edges.NONE);
        }
    }

    private void still() {
        e.says(Edges.TERMS, "STILL: the fewest DAYS (0 .. 20) behind which on the next DAY nobody"
                + " moves (-5: not by then).");
        e.still("nobody", Made::empty, x -> x.told(4), 0);
        e.still("nobody moves", () -> Made.several(2, 4), x -> x.told(4), 0);
        e.still("B goes", Made::two, x -> x.told(4), 1);
        e.still("one away does not", DayEdges::goneFar, x -> x.told(4), 0);
        e.due("alone in vain", () -> Made.alone(0, 0, 20, 9, ""), x -> x.told(4), 1);
        // On an odd day it pays nothing but at 1, on an even one nothing at 0: it moves each day.
        String text = "yard 0;less 99 y=1&!(d=1|d=3|d=5|d=7|d=9)|y=0&(d=1|d=3|d=5|d=7|d=9)";
        e.due("it moves each day", () -> Made.alone(0, 0, 0, 0, text), x -> x.told(4), Edges.NEVER);
        e.says(10, "4 STILL (-5),");
        e.still("never", DayEdges::restless, x -> x.told(4), Edges.NEVER);
        e.due("never by 20 days", DayEdges::restless, x -> x.pass(20) + x.told(4), 20 + Edges.NEVER);
    }

    private static FuneralDebts goneFar() {
        FuneralDebts x = Made.two();
        x.away(1, true);
        return x;
    }

    /**
     * Odd days send a vicar to 1, even ones to 2, but day 10 to 0, and so do 7, 14 and 21: behind
     * day 20 is the first day on which it stays.
     */
    private void stillByDays() {
        String text = "yard 0;less 99 d=0|y>1|y=1&(d=1|d=3|d=5|d=7|d=9)";
        Edges.Making made = () -> Made.alone(4, 0, 1, 9, text);
        e.due("21 days are too many", made, x -> x.told(4), Edges.NEVER);
        e.still("20", () -> after(made, 1), x -> x.told(4), 20);
        e.due("19", () -> after(made, 2), x -> x.told(4), 19);
        e.due("2", () -> after(made, 19), x -> x.told(4), 2);
        e.due("1", () -> after(made, 20), x -> x.told(4), 1);
        FuneralDebts x = after(made, 20);
        x.pass(1);
        e.due("0", x.told(4), 0);
    }

    private static FuneralDebts after(Edges.Making made, int days) {
        FuneralDebts x = made.make();
        x.pass(days);
        return x;
    }

    private void gains() {
        e.says(Edges.TERMS, "GAINS: those MOURNERS not AWAY, as bits, to whom their YARD behind a"
                + " DAY is of greater WORTH, by how all stand then, than theirs now, by how all"
                + " stand now,");
        e.still("nobody", Made::empty, x -> x.told(5), 0);
        // B goes to 9: 1 - 25 there, 8 - 52 here. A pays 75 then, and 48 now.
        e.still("B, and not A", Made::two, x -> x.told(5), 2);
        e.due("A, and not B", () -> swapped(), x -> x.told(5), 1);
        // Both go to 9, and pay 50 there as they did here.
        e.due("gone, but no better off", () -> Made.several(2, 0), x -> x.told(5), 0);
        FuneralDebts x = Made.empty();
        x.mourner(0, 0, 10, 0);
        x.mourner(0, 0, 20, 9);
        e.due("the first stays, and pays less by the second's coming", x.told(5), 3);
        x.away(0, true);
        e.due("not one away", x.told(5), 2);
        x.away(1, true);
        e.due("nobody is there", x.told(5), 0);
        FuneralDebts six = Made.empty();
        for (int m = 0; m < 6; m++) {
            six.mourner(0, 0, 20, 9);
        }
        e.due("all six", six.told(5), 63);
        e.says(10, "5 GAINS (bits),");
        six.away(2, true);
        e.due("five", six.told(5), 63 - 4);
    }

    private static FuneralDebts swapped() {
        FuneralDebts x = Made.empty();
        x.mourner(1, 5, 1, 2);
        x.mourner(0, 3, 10, 0);
        return x;
    }

    private void gainsOnTheSameDay() {
        e.says(Edges.TERMS, "DAY being in both as it is now.");
        // Tomorrow it would pay, and be worse off at 0 than it is at 9 today.
        e.due("tomorrow it pays", () -> Made.alone(4, 0, 1, 9, ""), x -> x.told(5), 1);
        // Today it pays at 9, and would at 0; tomorrow it would pay nothing.
        Edges.Making made = () -> after(() -> Made.alone(4, 0, 0, 9, ""), 6);
        e.due("tomorrow it pays nothing", made, x -> x.told(5), 0);
        FuneralDebts x = Made.alone(0, 0, 0, 0, "less 99 d=0");
        x.pass(9);
        e.due("tomorrow nobody pays", x.told(5), 0);
        FuneralDebts y = Made.alone(0, 0, 0, 0, "less 99 d=1");
        e.due("nor tomorrow", y.told(5), 0);
        // It goes to 9, which is free today; tomorrow it would pay there, too, for less love.
        Edges.Making freeToday = () -> Made.alone(0, 0, 1, 0, "yard 0;less 99 y=9&d=0");
        e.due("where it stands then is better today", freeToday, z -> z.told(5), 1);
    }

    // ---- promise 11

    private void pass() {
        e.says(11, "n DAYS (0 .. 20) go: DAY.");
        e.still("none", Made::busy, x -> x.pass(0), 2);
        e.due("20", Made::busy, x -> x.pass(20), 22);
        e.due("1", Made::busy, x -> x.pass(1), 3);
        FuneralDebts x = Made.several(1, 0);
        e.due("20", x.pass(20), 20);
        e.due("each was one", x.of(0, 5), 2000);
        e.says(11, "BAD;");
        for (int n : Edges.beyond(20)) {
            e.still("n " + n, Made::busy, y -> y.pass(n), Edges.BAD);
        }
    }

    private void passTooFar() {
        e.says(11, "STATE: it would be above 9999.");
        FuneralDebts x = Made.several(1, 0);
        goFar(x);
        e.due("to 10000", x.pass(20), Edges.STATE);
        e.due("bad ahead of state", x.pass(21), Edges.BAD);
        e.due("no day went", x.told(0), 9980);
        e.due("nor was paid", x.of(0, 5), 998000);
        e.due("to 9999", x.pass(19), 9999);
        e.due("to 10000", x.pass(1), Edges.STATE);
        e.due("to 10019", x.pass(20), Edges.STATE);
        e.due("none goes", x.pass(0), 9999);
        e.due("none went", x.told(0), 9999);
        e.due("nor was paid", x.of(0, 5), 999900);
    }

    // ---- promise 12

    private void on() {
        e.says(Edges.TERMS, "ON n DAYS (0 .. 20): YARD of one; PAID of one.");
        e.still("0: as it is", Made::two, x -> x.on(0, 11), 2);
        e.still("0: nothing paid", Made::two, x -> x.on(0, 21), 0);
        e.still("1: B goes", Made::two, x -> x.on(1, 11), 9);
        e.still("20: paid", Made::two, x -> x.on(20, 20), 1500);
        e.says(12, "ON: what 10 and p YARD, 20 and p PAID of MOURNER p.");
        FuneralDebts x = Made.empty();
        for (int m = 0; m < 6; m++) {
            x.mourner(0, 0, 0, m + 2);
        }
        x.debt(600);
        for (int m = 0; m < 6; m++) {
            e.due("yard of " + m, x.on(0, 10 + m), m + 2);
        }
        x.pass(3);
        int paid = 0;
        for (int m = 0; m < 6; m++) {
            e.due("paid by " + m, x.on(0, 20 + m), x.of(m, 5));
            paid += x.on(20, 20 + m);
        }
        e.due("all that was owed in 23 days", paid, 23 * 600);
    }

    private void onRefused() {
        e.says(12, "NONE;");
        int[] whats = {-1, 0, 3, 9, 14, 15, 16, 19, 24, 25, 26, 30, Integer.MIN_VALUE,
            Integer.MIN_VALUE + 10, Integer.MAX_VALUE};
        for (int what : whats) {
            e.still("what " + what, Made::busy, x -> x.on(1, what), Edges.NONE);
        }
        for (int what : new int[] {16, 26}) {
            e.still("what " + what + " of six", Made::full, x -> x.on(1, what), Edges.NONE);
        }
        e.still("none ahead of bad", Made::busy, x -> x.on(21, 14), Edges.NONE);
        e.still("none ahead of bad", Made::busy, x -> x.on(-1, 9), Edges.NONE);
        e.says(12, "BAD: n.");
        for (int n : Edges.beyond(20)) {
            e.still("yard on " + n, Made::busy, x -> x.on(n, 10), Edges.BAD);
            e.still("paid on " + n, Made::busy, x -> x.on(n, 20), Edges.BAD);
        }
    }

    // ---- what is asked

    private void asked() {
        e.says(Edges.TERMS, "All that follows is asked, goes on from how all is (DAYS beyond 9999,"
                + " PAID beyond 999999, too), and changes nothing.");
        e.due("beyond 999999", DayEdges::richest, x -> x.on(2, 20), 999999 + 2 * 999);
        e.due("on 0", DayEdges::richest, x -> x.on(0, 20), 999999);
        e.due("and changes nothing", DayEdges::richest, x -> x.on(20, 20) - x.of(0, 5), 20 * 999);
        e.due("ENDS, too", DayEdges::richest, x -> x.plan(0, 0) + x.ends(0), 1 + 999999 + 999);
        e.says(Edges.TERMS, "What is answered so changes nothing; what is asked changes nothing.");
        for (int n = 0; n <= 20; n += 10) {
            int days = n;
            for (int what : new int[] {10, 11, 12, 13, 20, 21, 22, 23}) {
                FuneralDebts x = Made.busy();
                long first = x.on(days, what);
                e.still("on " + days, Made::busy, y -> y.on(days, what), first);
            }
        }
    }

    private void beyond() {
        e.says(Edges.TERMS, "All that follows is asked, goes on from how all is (DAYS beyond 9999,"
                + " PAID beyond 999999, too), and changes nothing.");
        FuneralDebts x = Made.several(1, 4);
        goFar(x);
        x.pass(19);
        // Of 0 to 9998 each seventh is free, 1429 of them; so are 10003, 10010 and 10017.
        e.due("paid", x.of(0, 5), 857000);
        e.due("to 10003", x.on(4, 20), 857400);
        e.due("over 10003", x.on(5, 20), 857400);
        e.due("to 10019", x.on(20, 20), 857000 + 1700);
        x.set(0, 0, 1);
        x.set(0, 1, 9);
        e.due("on day 10000 nobody moves", x.told(4), 1);
        e.due("gains", x.told(5), 1);
        FuneralDebts y = restless();
        goFar(y);
        y.pass(19);
        e.due("never", y.told(4), Edges.NEVER);
        e.due("DAY", y.told(0), 9999);
        y.plan(0, 0);
        y.plan(0, 0);
        e.due("ends of two days", y.ends(0) - y.of(0, 5) - y.of(1, 5), 200);
    }

    // ---- promise 13

    /** Five have 10 each, and mourner 5 has 20: 70 in all, and 100 for each 10. */
    private static FuneralDebts sixOf700() {
        FuneralDebts x = Made.empty();
        for (int m = 0; m < 6; m++) {
            x.mourner(0, 0, 0, m == 5 ? 0 : 5);
        }
        x.debt(700);
        return x;
    }

    private void kept() {
        e.says(Edges.TERMS, "KEPT for a MOURNER not AWAY and q (0 .. 999): the set with the fewest"
                + " other MOURNERS");
        e.still("0", Made::two, x -> x.kept(0, 0), 0);
        e.due("alone", () -> Made.several(1, 0), x -> x.kept(0, 100), 0);
        e.due("999 of 999", DayEdges::richest, x -> x.kept(0, 999), 0);
        e.due("one is fewer than two", DayEdges::sixOf700, x -> x.kept(2, 140), 32);
        // Without 0 and 1, too, it would be 140; 0 and 1 are less as bits than 5.
        e.due("three", DayEdges::sixOf700, x -> x.kept(2, 233), 1 + 2 + 32);
        e.due("all others", DayEdges::sixOf700, x -> x.kept(2, 700), 63 - 4);
        e.due("all others of 5", DayEdges::sixOf700, x -> x.kept(5, 700), 31);
        e.due("nobody", DayEdges::sixOf700, x -> x.kept(5, 200), 0);
        e.says(Edges.TERMS, "by whom being AWAY, too, its SHARE, all standing where they do,"
                + " is q or more");
        e.still("as much as it is", Made::two, x -> x.kept(0, 48), 0);
        e.still("one more", Made::two, x -> x.kept(0, 49), 2);
        e.still("as much as it can be", Made::two, x -> x.kept(0, 100), 2);
        FuneralDebts x = sixOf700();
        x.away(0, true);
        // 60 parts are left: 700 / 6 is 116, and without the dear one 700 / 4 is 175.
        e.due("one is away already", x.kept(2, 116), 0);
        e.due("and the dear one", x.kept(2, 175), 32);
        e.due("the bits of one away don't matter", x.kept(2, 700), 63 - 4 - 1);
    }

    private void keptOfSeveral() {
        e.says(Edges.TERMS, "(as bits; of several the least as bits)");
        e.due("the first", DayEdges::sixOf700, x -> x.kept(2, 110), 1);
        e.due("the first but itself", DayEdges::sixOf700, x -> x.kept(0, 110), 2);
        e.due("two with the dear one", DayEdges::sixOf700, x -> x.kept(2, 175), 1 + 32);
        e.due("two of five alike", DayEdges::sixOf700, x -> x.kept(5, 280), 1 + 2);
        e.due("three of five alike", DayEdges::sixOf700, x -> x.kept(5, 350), 1 + 2 + 4);
        e.due("four, without itself", DayEdges::sixOf700, x -> x.kept(1, 350), 1 + 4 + 8 + 32);
    }

    private void keptNone() {
        e.says(Edges.TERMS, "(-5: none, or it is AWAY).");
        e.still("more than all", Made::two, x -> x.kept(0, 101), Edges.NEVER);
        e.still("far more", Made::two, x -> x.kept(1, 999), Edges.NEVER);
        e.due("alone", () -> Made.several(1, 0), x -> x.kept(0, 101), Edges.NEVER);
        e.due("it pays nothing", () -> Made.several(2, 4), x -> x.kept(0, 1), Edges.NEVER);
        e.still("AWAY, and 0", Made::busy, x -> x.kept(3, 0), Edges.NEVER);
        e.still("AWAY, and 1", Made::busy, x -> x.kept(3, 1), Edges.NEVER);
        e.says(13, "KEPT (bits); -5.");
        e.due("nobody", Made::two, x -> x.kept(1, 52), 0);
        e.due("A", Made::two, x -> x.kept(1, 53), 1);
        e.due("none", Made::two, x -> x.kept(1, 101), Edges.NEVER);
    }

    private void keptRefused() {
        e.says(13, "NONE;");
        for (int m : Edges.beyond(3)) {
            e.still("mourner " + m, Made::busy, x -> x.kept(m, 0), Edges.NONE);
        }
        e.still("none ahead of bad", Made::busy, x -> x.kept(4, 1000), Edges.NONE);
        e.says(13, "BAD: q.");
        for (int q : Edges.beyond(999)) {
            e.still("q " + q, Made::busy, x -> x.kept(0, q), Edges.BAD);
        }
        e.still("bad ahead of -5 of one AWAY", Made::busy, x -> x.kept(3, 1000), Edges.BAD);
    }
}

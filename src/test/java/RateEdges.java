/** The edges of what the Terms say of RATES, SHARES, WORTH and BEST. */
final class RateEdges {
    private final Edges e;

    private RateEdges(Edges e) {
        this.e = e;
    }

    static void run(Edges e) {
        RateEdges edges = new RateEdges(e);
        edges.sum();
        edges.plainRates();
        edges.halves();
        edges.weepers();
        edges.vicars();
        edges.rows();
        edges.cut();
        edges.below();
        edges.together();
        edges.leftOver();
        edges.nobodyPays();
        edges.worth();
        edges.best();
    }

    /** The RATE at a yard, 20 for a MOURNER at yard 0 without a text. */
    private void rate(int kind, int v, String text, int yard, int want) {
        FuneralDebts x = Made.alone(kind, v, 0, 0, text);
        e.due("kind " + kind + ", v " + v + " at " + yard + " by " + text, x.of(0, 10 + yard), want);
    }

    private void sum() {
        e.says(Edges.TERMS, "SUM of a MOURNER and a YARD: 20, and the n of all more whose E holds,"
                + " less those of all less, less FALL times the YARD, together (may be below 0).");
        rate(0, 0, "", 0, 20);
        rate(0, 0, "yard 0", 9, 20);
        rate(0, 0, "more 7 p=0", 0, 27);
        rate(0, 0, "more 7 p=1", 0, 20);
        rate(0, 0, "less 7 p=0", 0, 13);
        rate(0, 0, "less 7 p=1", 0, 20);
        rate(0, 0, "more 0 p=0;less 0 p=0", 0, 20);
        rate(0, 0, "more 5 p=0;more 6 p=1;more 7 p=0", 0, 32);
        rate(0, 0, "less 5 p=0;less 6 p=1;less 7 p=0", 0, 8);
        rate(0, 0, "less 20 p=0", 0, 0);
        rate(0, 0, "less 21 p=0", 0, -1);
        rate(0, 0, "yard 99", 9, 20 - 99 * 9);
        rate(0, 0, "yard 10", 2, 0);
        rate(0, 0, "yard 10", 3, -10);
        rate(0, 0, "less 99 p=0;yard 99;less 99 y=9;more 1 y<9", 9, 20 - 99 * 11);
        StringBuilder ten = new StringBuilder("more 99 p=0");
        for (int n = 1; n < 8; n++) {
            ten.append(";more 99 p=0");
        }
        rate(0, 0, ten.toString(), 0, 20 + 8 * 99);
    }

    private void plainRates() {
        e.says(Edges.TERMS, "RATE of a MOURNER at a YARD (may be below 0): MOURNER: SUM.");
        rate(0, 9, "", 9, 2);
        rate(0, 9, "less 99 p=0", 9, 2 - 99);
        e.says(Edges.TERMS, "COUSIN: SUM and v.");
        rate(1, 0, "", 9, 2);
        rate(1, 9, "", 9, 11);
        rate(1, 9, "less 30 p=0", 0, -1);
    }

    private void halves() {
        e.says(Edges.TERMS, "CREDITOR: the half (cut toward 0) of SUM.");
        halved(2, 0);
        e.says(Edges.TERMS, "BEARER: as CREDITOR, and 5.");
        halved(5, 5);
    }

    private void halved(int kind, int more) {
        rate(kind, 9, "", 0, 10 + more);
        rate(kind, 9, "less 1 p=0", 0, 9 + more);
        rate(kind, 9, "less 19 p=0", 0, more);
        rate(kind, 9, "less 20 p=0", 0, more);
        rate(kind, 9, "less 21 p=0", 0, more);
        rate(kind, 9, "less 22 p=0", 0, -1 + more);
        rate(kind, 9, "less 23 p=0", 0, -1 + more);
        rate(kind, 9, "less 24 p=0", 0, -2 + more);
        rate(kind, 9, "yard 99", 9, -435 + more);
    }

    private void weepers() {
        e.says(Edges.TERMS, "WEEPER: SUM; 1, if the YARD is 5 or more.");
        rate(3, 9, "", 0, 20);
        rate(3, 9, "", 4, 12);
        rate(3, 9, "less 20 p=0", 4, -8);
        for (int yard = 5; yard <= 9; yard++) {
            rate(3, 9, "", yard, 1);
            rate(3, 9, "more 99 p=0", yard, 1);
            rate(3, 9, "less 99 p=0", yard, 1);
        }
    }

    private void vicars() {
        e.says(Edges.TERMS, "VICAR: as COUSIN; 0, if DAY modulo 7 is 0.");
        FuneralDebts x = Made.alone(4, 9, 0, 0, "more 3 p=0");
        for (int day = 0; day <= 22; day++) {
            boolean none = day == 0 || day == 7 || day == 14 || day == 21;
            e.due("on day " + day, x.of(0, 10), none ? 0 : 32);
            e.due("on day " + day + " at 9", x.of(0, 19), none ? 0 : 14);
            x.pass(1);
        }
        FuneralDebts y = Made.alone(4, 9, 0, 0, "less 99 p=0");
        e.due("not below 0 on day 0", y.of(0, 10), 0);
        y.pass(1);
        e.due("below 0 on day 1", y.of(0, 10), 20 + 9 - 99);
    }

    private void rows() {
        e.says(Edges.TERMS, "TOLD: as WEEPER, and its ROW (four numbers 0 .. 9; 0 at first)"
                + " at YARD modulo 4 more.");
        FuneralDebts x = Made.several(1, 6);
        int[] row = {9, 0, 4, 7};
        for (int yard = 0; yard <= 9; yard++) {
            e.due("at first at " + yard, x.of(0, 10 + yard), yard >= 5 ? 1 : 20 - 2 * yard);
        }
        for (int part = 0; part < 4; part++) {
            x.row(0, part, row[part]);
        }
        for (int yard = 0; yard <= 9; yard++) {
            int wept = yard >= 5 ? 1 : 20 - 2 * yard;
            e.due("at " + yard, x.of(0, 10 + yard), wept + row[yard % 4]);
        }
        Check.parish(x, "less 99 p=0");
        e.due("below 0 at 3", x.of(0, 13), 14 - 99 + 7);
        e.due("far at 7", x.of(0, 17), 1 + 7);
    }

    // ---- shares

    private void shares(String call, FuneralDebts x, int... want) {
        for (int m = 0; m < want.length; m++) {
            e.due(call + ": share of " + m, x.of(m, 6), want[m]);
        }
    }

    private void cut() {
        e.says(Edges.TERMS, "SHARES: of DEBT each one not AWAY PAYS as much (cut)");
        // 2000 / 41 is 48.78, and 2100 / 41 is 51.2: the 1 that is left over is B's.
        shares("cut, not rounded", Made.two(), 48, 52);
        FuneralDebts x = Made.several(6, 0);
        x.debt(5);
        shares("5 by six", x, 5, 0, 0, 0, 0, 0);
        x.debt(999);
        shares("999 by six", x, 169, 166, 166, 166, 166, 166);
        x.debt(0);
        shares("0 by six", x, 0, 0, 0, 0, 0, 0);
        x.debt(996);
        shares("996 by six", x, 166, 166, 166, 166, 166, 166);
    }

    private void below() {
        e.says(Edges.TERMS, "as its RATE at its YARD, as 0 if below,");
        FuneralDebts x = Made.several(3, 0);
        Check.parish(x, "less 99 p=0;less 20 p=1");
        e.due("the first's rate", x.of(0, 10), -79);
        e.due("the second's rate", x.of(1, 10), 0);
        shares("-79, 0 and 20", x, 0, 0, 100);
        Check.parish(x, "less 21 p=0;less 10 p=1");
        shares("-1, 10 and 20", x, 0, 33, 67);
        x.set(2, 1, 5);
        shares("-1, 10 and 10", x, 0, 50, 50);
    }

    private void together() {
        e.says(Edges.TERMS, "is of those of all not AWAY, together;");
        FuneralDebts x = Made.several(4, 0);
        shares("20 each", x, 25, 25, 25, 25);
        x.away(0, true);
        shares("the first away", x, 0, 34, 33, 33);
        x.away(3, true);
        shares("the last, too", x, 0, 50, 50, 0);
        x.away(1, true);
        shares("one there", x, 0, 0, 100, 0);
        x.away(2, true);
        shares("all away", x, 0, 0, 0, 0);
    }

    private void leftOver() {
        e.says(Edges.TERMS, "what is left over of DEBT by that PAYS, besides,"
                + " the one not AWAY with the greatest RATE (of several the first).");
        FuneralDebts x = Made.several(3, 0);
        shares("the first of three", x, 34, 33, 33);
        Check.parish(x, "more 1 p=1");
        // 20, 21, 20 of 61: 32, 34, 32, and 2 are left.
        shares("the second has most", x, 32, 36, 32);
        Check.parish(x, "more 1 p=2;more 1 p=1");
        // 20, 21, 21 of 62: 32, 33, 33, and 2 are left.
        shares("the first of two that have most", x, 32, 35, 33);
        x.away(1, true);
        // 20, 21 of 41.
        shares("the one that had most is away", x, 48, 0, 52);
        x.away(1, false);
        x.away(2, true);
        shares("the other that had most is away", x, 48, 52, 0);
        // A RATE of 1 is the greatest, where the others have no more.
        FuneralDebts far = Made.empty();
        for (int m = 0; m < 4; m++) {
            far.mourner(m == 0 ? 4 : 3, 0, 0, 9);
        }
        shares("a vicar's 0 and three times 1", far, 0, 34, 33, 33);
        // What is below 0 is not the greatest, however far from 0.
        FuneralDebts y = Made.several(3, 0);
        Check.parish(y, "less 99 p=0;less 17 p>0");
        y.debt(7);
        shares("-79, 3 and 3", y, 0, 4, 3);
    }

    private void nobodyPays() {
        e.says(Edges.TERMS, "If all these are 0 or below, nobody PAYS anything.");
        FuneralDebts x = Made.several(3, 0);
        Check.parish(x, "less 20 p<9");
        shares("all 0", x, 0, 0, 0);
        Check.parish(x, "less 21 p<9");
        shares("all -1", x, 0, 0, 0);
        Check.parish(x, "less 20 p<2;less 99 p=2");
        shares("0 and below", x, 0, 0, 0);
        Check.parish(x, "less 20 p<2;less 19 p=2");
        shares("but one", x, 0, 0, 100);
        x.away(2, true);
        shares("but one that is away", x, 0, 0, 0);
        x.pass(3);
        e.due("nobody paid", x.of(0, 5) + x.of(1, 5) + x.of(2, 5), 0);
        // A vicar alone on a day on which its rate is 0.
        shares("a vicar on day 0", Made.several(1, 4), 0);
    }

    // ---- worth

    private void worth() {
        e.says(Edges.TERMS, "WORTH of a YARD to a MOURNER (may be below 0): LOVE times (10 less"
                + " the YARD), less what it would PAY, if it stood there and all others where"
                + " they do.");
        FuneralDebts x = Made.alone(0, 0, 20, 0, "");
        e.due("20 times 10 less 100", x.of(0, 20), 100);
        e.due("20 times 1 less 100", x.of(0, 29), -80);
        x.debt(999);
        e.due("20 times 10 less 999", x.of(0, 20), -799);
        x.set(0, 0, 0);
        e.due("without love", x.of(0, 25), -999);
        x.debt(0);
        e.due("without debt", x.of(0, 25), 0);
        x.set(0, 0, 1);
        e.due("1 times 10", x.of(0, 20), 10);
        e.due("1 times 1", x.of(0, 29), 1);
        // B stands at 2 with 21, and has 25 at 0 and 7 at 9; A stands at 0 with 20.
        e.due("B at 0: 2500 / 45 and 1", Made::two, z -> z.of(1, 20), 10 - 56);
        e.due("B at 9: 700 / 27", Made::two, z -> z.of(1, 29), 1 - 25);
        e.due("A at 9: 200 / 23", Made::two, z -> z.of(0, 29), 10 - 8);
        // What is left over goes by how it would stand: at 0 each of two is the first with most.
        FuneralDebts y = Made.several(2, 0);
        y.debt(1);
        e.due("the first pays 1", y.of(0, 20), -1);
        e.due("the second pays none", y.of(1, 20), 0);
        e.due("the first pays none at 1", y.of(0, 21), 0);
        y.set(0, 1, 1);
        e.due("the second pays 1, the first being at 1", y.of(1, 20), -1);
    }

    private void best() {
        e.says(Edges.TERMS, "BEST of one: the YARD with the greatest WORTH (of several the least).");
        e.due("0 of all alike", () -> Made.alone(0, 0, 0, 9, ""), x -> x.of(0, 7), 0);
        e.due("0 by love", () -> Made.alone(0, 0, 20, 9, ""), x -> x.of(0, 7), 0);
        // Nothing is to be paid from a yard on: the first of these.
        for (int yard = 0; yard <= 9; yard++) {
            String text = yard == 0 ? "less 99 p=0" : "yard 0;less 99 y>" + (yard - 1);
            FuneralDebts x = Made.alone(0, 0, 0, 3, text);
            e.due("the first from " + yard, x.of(0, 7), yard);
        }
        // With love 1 and 10 to pay ahead of yard 9: 10 less 10 at 0, 1 at 9.
        FuneralDebts x = Made.alone(0, 0, 1, 3, "yard 0;less 99 y=9");
        x.debt(10);
        e.due("0 and 1", x.of(0, 7), 9);
        x.debt(9);
        e.due("1 and 1", x.of(0, 7), 0);
    }
}

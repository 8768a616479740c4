/** The edges of promises 14 to 17, and of OWED in promise 10. */
final class SeenEdges {
    private final Edges e;

    private SeenEdges(Edges e) {
        this.e = e;
    }

    static void run(Edges e) {
        SeenEdges edges = new SeenEdges(e);
        edges.see();
        edges.seeNone();
        edges.seeRefused();
        edges.owed();
        edges.owedNone();
        edges.can();
        edges.canOfTests();
        edges.canRefused();
        edges.odds();
        edges.oddsOfOthers();
        edges.oddsRefused();
        edges.mean();
        edges.meanRefused();
    }

    /** As two(), having seen the shares that are given, A's and B's in turn. */
    private static FuneralDebts twoSeen(int... shares) {
        FuneralDebts x = Made.two();
        for (int i = 0; i < shares.length; i++) {
            x.see(i % 2, shares[i]);
        }
        return x;
    }

    // ---- promise 14

    private void see() {
        e.says(Edges.TERMS, "SEEN told by hand: a MOURNER, its SHARE now (0 .. 999; 5 rows at"
                + " most).");
        FuneralDebts x = Made.several(6, 0);
        e.due("the least", x.see(0, 0), 1);
        e.due("the most", x.see(5, 999), 2);
        e.due("the same again", x.see(5, 999), 3);
        e.due("another of the same", x.see(5, 0), 4);
        e.due("the fifth", x.see(3, 1), 5);
        e.due("a sixth", x.see(3, 1), Edges.FULL);
        e.says(14, "What is SEEN comes: how many there are");
        FuneralDebts y = Made.two();
        e.due("0 owed", y.see(0, 0), 1);
        e.due("0 by 0 .. 2", y.told(6), 3);
        e.due("both are so", y.see(1, 2), 2);
        e.due("2 alone", y.told(6), 1);
        e.due("2", y.told(7), 2);
        e.due("one away, too", y.away(1, true) + y.see(1, 0), 3);
        e.due("how many", y.count(2), 3);
    }

    private void seeNone() {
        e.says(14, "(mourner -1: none then, 0, whatever the rest is).");
        for (int share : new int[] {0, 7, -1, 1000, Integer.MIN_VALUE, Integer.MAX_VALUE}) {
            FuneralDebts x = Made.full();
            e.due("none, " + share, x.see(-1, share), 0);
            e.due("are there", x.count(2), 0);
            e.due("all numbers are so", x.told(6), 1000);
            e.due("the first again", x.see(0, 0), 1);
            e.still("of a new one, " + share, Made::empty, y -> y.see(-1, share), 0);
        }
        FuneralDebts x = Made.two();
        for (int n = 0; n < 5; n++) {
            x.see(0, 1);
        }
        x.see(-1, 0);
        for (int n = 1; n <= 5; n++) {
            e.due("five again", x.see(0, 0), n);
        }
        e.due("none of the old ones counts", x.told(6), 3);
    }

    private void seeRefused() {
        e.says(14, "NONE;");
        for (int m : Edges.beyondButOne(3)) {
            e.still("mourner " + m, Made::busy, x -> x.see(m, 0), Edges.NONE);
        }
        e.still("none ahead of bad", Made::busy, x -> x.see(4, 1000), Edges.NONE);
        e.still("none ahead of full", Made::full, x -> x.see(6, 0), Edges.NONE);
        e.says(14, "BAD: share;");
        for (int share : Edges.beyond(999)) {
            e.still("share " + share, Made::busy, x -> x.see(0, share), Edges.BAD);
            e.still("bad ahead of full", Made::full, x -> x.see(0, share), Edges.BAD);
        }
        e.says(14, "FULL: 5.");
        e.still("a sixth", Made::full, x -> x.see(0, 0), Edges.FULL);
    }

    // ---- owed

    private void owed() {
        e.says(Edges.TERMS, "OWED: how many numbers (0 .. 999) there are by which, were DEBT that,"
                + " all of SEEN is so (of one AWAY: 0);");
        e.still("nothing seen", Made::two, x -> x.told(6), 1000);
        e.still("48 by 99 and 100", () -> twoSeen(48), x -> x.told(6), 2);
        e.still("and 52 by 100", () -> twoSeen(48, 52), x -> x.told(6), 1);
        e.due("487 by 999", () -> twoSeen(487), x -> x.told(7), 999);
        e.due("487 by 999 alone", () -> twoSeen(487), x -> x.told(6), 1);
        e.due("0 by 0 alone", () -> twoSeen(0, 0), x -> x.told(6), 1);
        e.due("DEBT does not matter", () -> twoSeen(48), x -> x.debt(7) + x.told(6), 102);
        FuneralDebts x = Made.several(1, 0);
        x.see(0, 999);
        e.due("999", x.told(7), 999);
        x.see(-1, 0);
        x.see(0, 0);
        e.due("0", x.told(7), 0);
        e.due("0 alone", x.told(6), 1);
        x.away(0, true);
        e.due("of one AWAY 0 is so", x.told(6), 1000);
        x.see(0, 1);
        e.due("of one AWAY 1 is not", x.told(6), 0);
        e.says(10, "6 OWED: how many, 7 the least (-5).");
        e.due("two", () -> twoSeen(48), y -> y.told(6), 2);
        e.due("the less of two", () -> twoSeen(48), y -> y.told(7), 99);
        e.due("none", () -> twoSeen(48, 48), y -> y.told(6), 0);
        e.due("no least", () -> twoSeen(48, 48), y -> y.told(7), Edges.NEVER);
    }

    private void owedNone() {
        e.says(Edges.TERMS, "the least (-5: none).");
        e.still("nothing seen", Made::two, x -> x.told(7), 0);
        e.still("the less of two", () -> twoSeen(48), x -> x.told(7), 99);
        e.still("none", () -> twoSeen(47, 52), x -> x.told(7), Edges.NEVER);
        e.still("how many then", () -> twoSeen(47, 52), x -> x.told(6), 0);
        e.due("one is so, the other not", () -> twoSeen(48, 52, 47), x -> x.told(7), Edges.NEVER);
        e.due("more than there can be", () -> twoSeen(488), x -> x.told(7), Edges.NEVER);
    }

    // ---- promise 15

    private void can() {
        e.says(Edges.TERMS, "CAN of a MOURNER: how many numbers v (0 .. 9) there are by which, were"
                + " that its v, likewise; the least (-5: none).");
        e.still("nothing seen", Made::two, x -> x.can(1, 0), 10);
        e.still("the least of all", Made::two, x -> x.can(1, 1), 0);
        // By v B has 16 and v: A pays 2000 / (36 + v), and what is left over while v is below 4.
        e.still("48 by 5 alone", () -> twoSeen(48), x -> x.can(1, 0), 1);
        e.still("48 by 5", () -> twoSeen(48), x -> x.can(1, 1), 5);
        e.still("44 by 9 alone", () -> twoSeen(44), x -> x.can(1, 0), 1);
        e.still("44 by 9", () -> twoSeen(44), x -> x.can(1, 1), 9);
        e.still("56 by 0", () -> twoSeen(56), x -> x.can(1, 1), 0);
        e.still("43 by none", () -> twoSeen(43), x -> x.can(1, 0), 0);
        e.still("43 by none", () -> twoSeen(43), x -> x.can(1, 1), Edges.NEVER);
        e.due("A's v does not matter", () -> twoSeen(48), x -> x.can(0, 0), 10);
        e.due("A's v helps nothing", () -> twoSeen(47), x -> x.can(0, 1), Edges.NEVER);
        FuneralDebts x = twoSeen(100, 0);
        e.due("while B is there", x.can(1, 0), 0);
        x.away(1, true);
        e.due("of one AWAY 0 is so", x.can(1, 0), 10);
        x.see(1, 1);
        e.due("of one AWAY 1 is not", x.can(1, 0), 0);
        e.says(15, "CAN: what 0 how many, 1 the least; -5.");
        e.due("two rows", () -> twoSeen(48, 52), y -> y.can(1, 0), 1);
        e.due("two rows", () -> twoSeen(48, 52), y -> y.can(1, 1), 5);
        e.due("two rows, none", () -> twoSeen(48, 51), y -> y.can(1, 1), Edges.NEVER);
    }

    private void canOfTests() {
        e.says(Edges.TERMS, "how many numbers v (0 .. 9) there are by which, were that its v,");
        Edges.Making made = () -> {
            FuneralDebts x = Made.several(2, 0);
            Check.parish(x, "less 20 v>2&v<5|v=8");
            x.see(1, 100);
            x.see(0, 0);
            return x;
        };
        e.still("3, 4 and 8", made, x -> x.can(0, 0), 3);
        e.still("the least", made, x -> x.can(0, 1), 3);
        e.still("not the other's", made, x -> x.can(1, 0), 0);
        e.due("its own v stays", made, x -> x.can(0, 0) + x.of(0, 1), 3);
    }

    private void canRefused() {
        e.says(15, "NONE.");
        for (int m : Edges.beyond(3)) {
            e.still("mourner " + m, Made::busy, x -> x.can(m, 0), Edges.NONE);
            e.still("least of mourner " + m, Made::busy, x -> x.can(m, 1), Edges.NONE);
        }
        for (int what : Edges.beyond(1)) {
            e.still("what " + what, Made::busy, x -> x.can(0, what), Edges.NONE);
        }
        e.due("mourner 6 of six", Made::full, x -> x.can(6, 0), Edges.NONE);
    }

    // ---- promise 16

    private void odds(String call, Edges.Making made, int mourner, long above, long below) {
        e.still(call + ": above", made, x -> x.odds(mourner, 0), above);
        e.still(call + ": below", made, x -> x.odds(mourner, 1), below);
    }

    /** Six alike, of whom those in the bits pay nothing, and so many from the last are AWAY. */
    private static FuneralDebts idle(String tests, int away) {
        FuneralDebts x = Made.several(6, 0);
        Check.parish(x, "less 99 " + tests);
        for (int m = 6 - away; m < 6; m++) {
            x.away(m, true);
        }
        return x;
    }

    private void odds() {
        e.says(Edges.TERMS, "ODDS of a MOURNER: if one other one, not AWAY, each alike likely, is"
                + " AWAY, too, all standing where they do: how likely its SHARE is more than it"
                + " is: a fraction in lowest terms");
        odds("five of five", () -> Made.several(6, 0), 1, 1, 1);
        // It has 16 and the 4 left over: as much as 20 of 100 by five.
        odds("none of five, left over", () -> Made.several(6, 0), 0, 0, 1);
        odds("none of five", () -> idle("p=0", 0), 0, 0, 1);
        odds("three of five", () -> idle("p=1|p=2", 0), 0, 3, 5);
        odds("two of four", () -> idle("p=1|p=2", 1), 0, 1, 2);
        odds("one of four", () -> idle("p>0&p<4", 1), 0, 1, 4);
        odds("one of one", Made::two, 0, 1, 1);
        odds("none of one", () -> idle("p=0", 4), 0, 0, 1);
        e.says(16, "ODDS; part 0 above, 1 below the line.");
        odds("four of five", () -> idle("p=5", 0), 2, 4, 5);
    }

    private void oddsOfOthers() {
        e.says(Edges.TERMS, "how likely its SHARE is more than it is:");
        // Of 3 by five each has 0, and the first 3, which are left over.
        FuneralDebts x = Made.several(5, 0);
        x.debt(3);
        e.due("the first pays 3 of 3", x.of(0, 6), 3);
        e.due("and no more when one goes", x.odds(0, 0), 0);
        e.due("the second pays none", x.of(1, 6), 0);
        e.due("and 3, if the first goes", x.odds(1, 0), 1);
        e.due("which is one of four", x.odds(1, 1), 4);
        e.due("the third never", x.odds(2, 0), 0);
        FuneralDebts y = Made.several(3, 0);
        y.debt(0);
        e.due("nothing is no more than nothing", y.odds(0, 0), 0);
    }

    private void oddsRefused() {
        e.says(Edges.TERMS, "(NO: there is no other one, or it is AWAY).");
        odds("alone", () -> Made.several(1, 0), 0, Edges.NO, Edges.NO);
        odds("all others away", () -> idle("p=9", 5), 0, Edges.NO, Edges.NO);
        odds("it is away", () -> idle("p=9", 1), 5, Edges.NO, Edges.NO);
        odds("all are away", () -> idle("p=9", 6), 0, Edges.NO, Edges.NO);
        e.says(16, "NO: mourner, part, as told.");
        for (int m : Edges.beyond(3)) {
            odds("mourner " + m, Made::busy, m, Edges.NO, Edges.NO);
        }
        for (int part : Edges.beyond(1)) {
            e.still("part " + part, Made::busy, x -> x.odds(0, part), Edges.NO);
        }
        e.due("mourner 6 of six", Made::full, x -> x.odds(6, 0), Edges.NO);
    }

    // ---- promise 17

    private void mean() {
        e.says(Edges.TERMS, "MEAN: DEBT by how many are not AWAY: a fraction in lowest terms");
        int[][] due = {{100, 1}, {50, 1}, {100, 3}, {25, 1}, {20, 1}, {50, 3}};
        for (int many = 1; many <= 6; many++) {
            int m = many;
            e.still("above " + m, () -> Made.several(m, 0), x -> x.mean(0), due[m - 1][0]);
            e.still("below " + m, () -> Made.several(m, 0), x -> x.mean(1), due[m - 1][1]);
        }
        FuneralDebts x = Made.several(6, 0);
        x.debt(0);
        e.due("0 above", x.mean(0), 0);
        e.due("0 below", x.mean(1), 1);
        x.debt(999);
        e.due("999 by 6 above", x.mean(0), 333);
        e.due("999 by 6 below", x.mean(1), 2);
        x.away(5, true);
        e.due("999 by 5 above", x.mean(0), 999);
        e.due("999 by 5 below", x.mean(1), 5);
        e.says(17, "MEAN; part likewise.");
        x.debt(4);
        x.away(0, true);
        e.due("4 by 4 above", x.mean(0), 1);
        e.due("4 by 4 below", x.mean(1), 1);
        x.debt(2);
        e.due("2 by 4 above", x.mean(0), 1);
        e.due("2 by 4 below", x.mean(1), 2);
    }

    private void meanRefused() {
        e.says(Edges.TERMS, "(NO: nobody is).");
        e.still("no mourners", Made::empty, x -> x.mean(0), Edges.NO);
        e.still("no mourners", Made::empty, x -> x.mean(1), Edges.NO);
        e.still("all away", () -> idle("p=9", 6), x -> x.mean(0), Edges.NO);
        e.still("all away", () -> idle("p=9", 6), x -> x.mean(1), Edges.NO);
        e.due("but one", () -> idle("p=9", 5), x -> x.mean(1), 1);
        e.says(17, "NO.");
        for (int part : Edges.beyond(1)) {
            e.still("part " + part, Made::busy, x -> x.mean(part), Edges.NO);
        }
    }
}

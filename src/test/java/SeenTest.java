/** Promises 14 to 17: what is seen, and odds. */
public final class SeenTest {
    private static final Check check = new Check();

    public static void main(String[] args) {
        see();
        can();
        canByTests();
        odds();
        mean();
        check.finish();
    }

    private static void see() {
        check.about("promise 14");
        FuneralDebts x = new FuneralDebts();
        check.due("no mourner", x.see(0, 0), -1);
        check.due("empty", x.see(-1, 5000), 0);
        x.mourner(0, 0, 0, 0);
        check.due("mourner 1", x.see(1, 1000), -1);
        check.due("mourner -2", x.see(-2, 0), -1);
        check.due("share 1000", x.see(0, 1000), -2);
        check.due("share -1", x.see(0, -1), -2);
        for (int n = 1; n <= 5; n++) {
            check.due("row " + n, x.see(0, n == 1 ? 999 : 0), n);
        }
        check.due("full", x.see(0, 0), -4);
        check.due("bad ahead of full", x.see(0, 1000), -2);
        check.due("none ahead of full", x.see(1, 0), -1);
        check.due("five", x.count(2), 5);
        check.due("no debt is so", x.told(6), 0);
        check.due("empty", x.see(-1, -1), 0);
        check.due("none", x.count(2), 0);
        check.due("again", x.see(0, 7), 1);
        check.due("alone it pays all", x.told(7), 7);
    }

    private static void can() {
        check.about("promise 15");
        FuneralDebts x = new FuneralDebts();
        x.mourner(0, 3, 10, 0);
        x.mourner(1, 5, 1, 0);
        check.due("nothing seen", x.can(1, 0), 10);
        check.due("nothing seen, the least", x.can(1, 1), 0);
        check.due("mourner 2", x.can(2, 0), -1);
        check.due("mourner -1", x.can(-1, 0), -1);
        check.due("what 2", x.can(0, 2), -1);
        check.due("what -1", x.can(0, -1), -1);
        // 20 of 40 and v parts of 100: cut, and by v 0 A is the first of two as great.
        x.see(0, 46);
        check.due("2000 / 43", x.can(1, 0), 1);
        check.due("v 3", x.can(1, 1), 3);
        check.due("A's v does not matter", x.can(0, 0), 0);
        check.due("none", x.can(0, 1), -5);
        x.see(-1, 0);
        x.see(0, 44);
        check.due("2000 / 45 as it is", x.can(0, 0), 10);
        x.see(1, 56);
        check.due("both seen", x.can(1, 1), 5);
        x.away(1, true);
        check.due("one away", x.can(1, 0), 0);
        x.see(-1, 0);
        x.see(0, 100);
        x.see(1, 0);
        check.due("one away pays nothing", x.can(1, 0), 10);
        check.due("asking changes nothing", x.of(1, 1), 5);
    }

    private static void canByTests() {
        check.about("promise 15, by tests");
        FuneralDebts x = new FuneralDebts();
        x.mourner(0, 0, 0, 0);
        x.mourner(0, 9, 0, 0);
        Check.parish(x, "less 20 v>2&v<5|v=8");
        x.see(1, 100);
        x.see(0, 0);
        check.due("three", x.can(0, 0), 3);
        check.due("the least", x.can(0, 1), 3);
        check.due("not of the other", x.can(1, 0), 0);
    }

    private static void odds() {
        check.about("promise 16");
        FuneralDebts x = new FuneralDebts();
        x.mourner(0, 0, 0, 0);
        check.due("alone", x.odds(0, 0), FuneralDebts.NO);
        x.mourner(0, 0, 0, 0);
        check.due("of two above", x.odds(0, 0), 1);
        check.due("of two below", x.odds(0, 1), 1);
        check.due("of the other", x.odds(1, 0), 1);
        for (int m = 2; m < 6; m++) {
            x.mourner(0, 0, 0, 0);
        }
        // Whoever is gone, who pays nothing makes nobody pay more.
        Check.parish(x, "less 99 p=1|p=2");
        check.due("three of five above", x.odds(0, 0), 3);
        check.due("three of five below", x.odds(0, 1), 5);
        check.due("one that pays nothing above", x.odds(1, 0), 0);
        check.due("one that pays nothing below", x.odds(1, 1), 1);
        x.away(5, true);
        check.due("two of four above", x.odds(0, 0), 1);
        check.due("two of four below", x.odds(0, 1), 2);
        check.due("one away", x.odds(5, 0), FuneralDebts.NO);
        check.due("part 2", x.odds(0, 2), FuneralDebts.NO);
        check.due("part -1", x.odds(0, -1), FuneralDebts.NO);
        check.due("mourner 6", x.odds(6, 0), FuneralDebts.NO);
        check.due("mourner -1", x.odds(-1, 0), FuneralDebts.NO);
        for (int m = 1; m < 5; m++) {
            x.away(m, true);
        }
        check.due("all others away", x.odds(0, 1), FuneralDebts.NO);
        x.debt(0);
        x.away(1, false);
        check.due("nothing to pay", x.odds(0, 0), 0);
    }

    private static void mean() {
        check.about("promise 17");
        FuneralDebts x = new FuneralDebts();
        check.due("nobody", x.mean(0), FuneralDebts.NO);
        x.mourner(0, 0, 0, 0);
        check.due("one above", x.mean(0), 100);
        check.due("one below", x.mean(1), 1);
        for (int m = 1; m < 6; m++) {
            x.mourner(0, 0, 0, 0);
        }
        check.due("six above", x.mean(0), 50);
        check.due("six below", x.mean(1), 3);
        x.away(3, true);
        x.debt(999);
        check.due("five above", x.mean(0), 999);
        check.due("five below", x.mean(1), 5);
        x.debt(0);
        check.due("nothing above", x.mean(0), 0);
        check.due("nothing below", x.mean(1), 1);
        check.due("part 2", x.mean(2), FuneralDebts.NO);
        check.due("part -1", x.mean(-1), FuneralDebts.NO);
        for (int m = 0; m < 6; m++) {
            x.away(m, true);
        }
        check.due("all away", x.mean(0), FuneralDebts.NO);
    }
}

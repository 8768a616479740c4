/** Promises 18 to 21: plans and books. */
public final class PlansTest {
    private static final Check check = new Check();

    public static void main(String[] args) {
        plan();
        ends();
        book();
        looked();
        check.finish();
    }

    private static void plan() {
        check.about("promise 18");
        FuneralDebts x = new FuneralDebts();
        check.due("empty", x.plan(-1, 99), 0);
        check.due("a day without mourners", x.plan(0, Integer.MIN_VALUE), 1);
        check.due("what 1 of no mourner", x.plan(1, 0), -1);
        x.mourner(0, 0, 0, 0);
        check.due("what -2", x.plan(-2, 0), -1);
        check.due("what 4", x.plan(4, 0), -1);
        check.due("what 3 of mourner 1", x.plan(3, 1), -1);
        check.due("what 2 of mourner -1", x.plan(2, -1), -1);
        for (int n = 2; n <= 8; n++) {
            check.due("row " + n, x.plan(n % 4, 0), n);
        }
        check.due("full", x.plan(0, 0), -4);
        check.due("none ahead of full", x.plan(1, 1), -1);
        check.due("eight", x.count(3), 8);
        check.due("empty", x.plan(-1, -1), 0);
        check.due("none", x.count(3), 0);
    }

    private static void ends() {
        check.about("promise 19");
        FuneralDebts x = new FuneralDebts();
        check.due("nobody", x.ends(1), 0);
        x.mourner(0, 0, 0, 3);
        x.mourner(0, 0, 1, 5);
        x.away(0, true);
        check.due("what 2", x.ends(2), -1);
        check.due("what -1", x.ends(-1), -1);
        check.due("paid as it is", x.ends(0), 0);
        check.due("yards as they are, of those away, too", x.ends(1), 8);
        x.plan(0, 0);
        // Alone, mourner 1 pays 100 wherever it stands: it goes to 0.
        check.due("paid behind a day", x.ends(0), 100);
        check.due("yards behind a day", x.ends(1), 3);
        x.plan(3, 0);
        check.due("one stands at 0", x.ends(1), 0);
        x.plan(1, 1);
        x.plan(0, 0);
        check.due("all away: nobody pays", x.ends(0), 100);
        x.plan(2, 0);
        x.plan(0, 0);
        check.due("one is back and pays", x.ends(0), 200);
        check.due("and stands as it did: all is as dear", x.ends(1), 0);
        x.plan(2, 1);
        x.plan(0, 0);
        // Both there: mourner 0 goes to 9 to pay 9; mourner 1 then pays 91 at 0, and 50 at 9.
        check.due("both", x.ends(0), 300);
        check.due("far", x.ends(1), 18);
        check.due("asking changes nothing", x.told(0) + x.told(3) + x.of(0, 3) + x.of(1, 3), 9);
        x.plan(-1, 0);
        check.due("an empty one", x.ends(1), 8);
    }

    private static void book() {
        check.about("promise 20");
        FuneralDebts x = new FuneralDebts();
        check.due("empty", x.book(-1, 99), 0);
        check.due("no mourner", x.book(0, 0), -1);
        x.mourner(0, 0, 0, 0);
        check.due("mourner 1", x.book(1, 0), -1);
        check.due("mourner -2", x.book(-2, 0), -1);
        check.due("yard 10", x.book(0, 10), -1);
        check.due("yard -1", x.book(0, -1), -1);
        for (int n = 1; n <= 8; n++) {
            check.due("row " + n, x.book(0, n + 1), n);
        }
        check.due("full", x.book(0, 0), -4);
        check.due("none ahead of full", x.book(0, 10), -1);
        check.due("eight", x.count(4), 8);
        check.due("empty", x.book(-1, -1), 0);
        check.due("none", x.count(4), 0);
    }

    private static void looked() {
        check.about("promise 21");
        FuneralDebts x = new FuneralDebts();
        check.due("an empty book", x.looked(), -5);
        x.mourner(0, 0, 0, 3);
        x.mourner(0, 0, 0, 5);
        x.book(1, 5);
        x.book(0, 3);
        check.due("all so", x.looked(), -5);
        x.book(1, 4);
        x.book(0, 9);
        check.due("the third", x.looked(), 2);
        x.set(0, 1, 9);
        check.due("the second", x.looked(), 1);
        x.set(1, 1, 4);
        check.due("the first", x.looked(), 0);
        x.away(1, true);
        check.due("of one away, too", x.looked(), 0);
    }
}

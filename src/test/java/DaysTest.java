/** Promises 11 to 13: days. */
public final class DaysTest {
    private static final Check check = new Check();

    public static void main(String[] args) {
        pass();
        passOrder();
        passFar();
        on();
        onFar();
        kept();
        keptOfSeveral();
        check.finish();
    }

    /** A (rate 20 at 0) stays at 0; B (rate 21 at 2, 7 at 9) goes to 9 on the first day. */
    private static FuneralDebts two() {
        FuneralDebts x = new FuneralDebts();
        x.mourner(0, 3, 10, 0);
        x.mourner(1, 5, 1, 2);
        return x;
    }

    private static void pass() {
        check.about("promise 11");
        FuneralDebts x = two();
        check.due("-1", x.pass(-1), -2);
        check.due("21", x.pass(21), -2);
        check.due("0", x.pass(0), 0);
        check.due("nothing went", x.of(1, 3), 2);
        check.due("1", x.pass(1), 1);
        check.due("A stands", x.of(0, 3), 0);
        check.due("B stands", x.of(1, 3), 9);
        check.due("A paid", x.of(0, 5), 75);
        check.due("B paid", x.of(1, 5), 25);
        check.due("3", x.pass(3), 4);
        check.due("A paid", x.of(0, 5), 300);
        x.set(1, 1, 4);
        x.away(1, true);
        check.due("20", x.pass(20), 24);
        check.due("one away stays", x.of(1, 3), 4);
        check.due("and pays nothing", x.of(1, 5), 100);
        check.due("the other pays all", x.of(0, 5), 300 + 2000);
    }

    private static void passOrder() {
        check.about("promise 11, one behind the other");
        FuneralDebts x = new FuneralDebts();
        x.mourner(0, 0, 10, 9);
        x.mourner(0, 0, 3, 0);
        // The first goes to 0: 100 less 50 there; 90 less 47 at 1, and so on down.
        // The second then pays 50 at 0 (30 less 50), and 9 at 9 (3 less 9).
        check.due("on the first day", x.pass(1), 1);
        check.due("the first stands", x.of(0, 3), 0);
        check.due("the second stands", x.of(1, 3), 9);
        check.due("the first paid", x.of(0, 5), 91);
        check.due("the second paid", x.of(1, 5), 9);
        // What is as good moves nobody: without debt and love all yards are.
        FuneralDebts y = new FuneralDebts();
        y.mourner(0, 0, 0, 4);
        y.debt(0);
        y.pass(1);
        check.due("as good", y.of(0, 3), 4);
    }

    private static void passFar() {
        check.about("promise 11, far");
        FuneralDebts x = new FuneralDebts();
        x.mourner(0, 0, 0, 0);
        x.debt(999);
        for (int n = 1; n <= 499; n++) {
            check.due("far", x.pass(20), 20 * n);
        }
        check.due("beyond 9999", x.pass(20), -3);
        check.due("bad ahead of beyond", x.pass(21), -2);
        check.due("9999", x.pass(19), 9999);
        check.due("10000", x.pass(1), -3);
        check.due("none", x.pass(0), 9999);
        check.due("paid at most", x.of(0, 5), 999999);
        check.due("asked it goes on", x.on(2, 20), 999999 + 2 * 999);
    }

    private static void on() {
        check.about("promise 12");
        FuneralDebts x = two();
        check.due("yard of A on 0", x.on(0, 10), 0);
        check.due("yard of B on 0", x.on(0, 11), 2);
        check.due("paid on 0", x.on(0, 21), 0);
        check.due("yard of B on 1", x.on(1, 11), 9);
        check.due("paid of A on 1", x.on(1, 20), 75);
        check.due("paid of B on 20", x.on(20, 21), 500);
        check.due("asking changes nothing", x.told(0) + x.of(1, 3) + x.of(1, 5), 2);
        int[] none = {9, 12, 15, 16, 19, 22, 26, 0, -1, Integer.MIN_VALUE, Integer.MAX_VALUE};
        for (int what : none) {
            check.due("what " + what, x.on(21, what), -1);
        }
        check.due("n 21", x.on(21, 10), -2);
        check.due("n -1", x.on(-1, 21), -2);
        x.away(1, true);
        check.due("one away stands", x.on(5, 11), 2);
        check.due("one away paid", x.on(5, 21), 0);
        for (int m = 2; m < 6; m++) {
            x.mourner(0, 0, 0, m);
        }
        check.due("the last yard", x.on(0, 15), 5);
        check.due("beyond the last", x.on(0, 16), -1);
        check.due("the last paid", x.on(0, 25), 0);
        check.due("beyond the last paid", x.on(0, 26), -1);
    }

    private static void onFar() {
        check.about("promise 12, by day");
        FuneralDebts x = new FuneralDebts();
        x.mourner(4, 0, 1, 0);
        // A vicar alone pays 100 on each day that is not the seventh: on 0, 7 and 14 nothing.
        check.due("paid", x.on(20, 20), 1700);
        x.pass(1);
        check.due("paid from day 1 on", x.on(6, 20), 600);
        check.due("paid on day 7, too", x.on(7, 20), 600);
    }

    private static void kept() {
        check.about("promise 13");
        FuneralDebts x = two();
        check.due("mourner 2", x.kept(2, 1000), -1);
        check.due("mourner -1", x.kept(-1, 0), -1);
        check.due("q 1000", x.kept(0, 1000), -2);
        check.due("q -1", x.kept(0, -1), -2);
        check.due("as it is", x.kept(0, 48), 0);
        check.due("0", x.kept(0, 0), 0);
        check.due("B off", x.kept(0, 49), 2);
        check.due("B off for all", x.kept(0, 100), 2);
        check.due("more than all", x.kept(0, 101), -5);
        check.due("A off", x.kept(1, 53), 1);
        x.away(1, true);
        check.due("one away", x.kept(1, 0), -5);
        check.due("bad ahead of away", x.kept(1, 1000), -2);
        check.due("the other", x.kept(0, 100), 0);
        check.due("asking changes nothing", x.told(3), 2);
    }

    private static void keptOfSeveral() {
        check.about("promise 13, of several");
        FuneralDebts x = new FuneralDebts();
        for (int m = 0; m < 6; m++) {
            x.mourner(0, 0, 0, m == 5 ? 0 : 5);
        }
        x.debt(700);
        // 10 each, and 20 of mourner 5: 100 of 700 and 200.
        check.due("100", x.kept(2, 100), 0);
        check.due("one of the others: 100 * 7 / 6", x.kept(2, 110), 1);
        check.due("the dear one: 700 / 5", x.kept(2, 140), 32);
        check.due("two: 700 / 4", x.kept(2, 175), 1 + 32);
        check.due("three: 700 / 3", x.kept(2, 233), 1 + 2 + 32);
        check.due("all", x.kept(2, 700), 1 + 2 + 8 + 16 + 32);
        // 60 parts are left: 700 / 6 is 116, and without the dear one 700 / 4 is 175.
        x.away(0, true);
        check.due("one away already", x.kept(2, 116), 0);
        check.due("and one more", x.kept(2, 175), 32);
        check.due("the dear one", x.kept(5, 280), 2);
    }
}

/** Objects that tests begin with. */
final class Made {
    private Made() {
    }

    static FuneralDebts empty() {
        return new FuneralDebts();
    }

    /** A pays 20 of 41 parts, B 21: 48 and 51, and 1 is left over for B. */
    static FuneralDebts two() {
        FuneralDebts x = new FuneralDebts();
        x.mourner(0, 3, 10, 0);
        x.mourner(1, 5, 1, 2);
        return x;
    }

    /** So many of one kind, with v 0 and no love, at yard 0. */
    static FuneralDebts several(int many, int kind) {
        FuneralDebts x = new FuneralDebts();
        for (int m = 0; m < many; m++) {
            x.mourner(kind, 0, 0, 0);
        }
        return x;
    }

    /** One alone, with a parish. */
    static FuneralDebts alone(int kind, int v, int love, int yard, String text) {
        FuneralDebts x = new FuneralDebts();
        x.mourner(kind, v, love, yard);
        if (!text.isEmpty()) {
            Check.parish(x, text);
        }
        return x;
    }

    /** Something of all there is, nothing full, and an image that is otherwise; 4 is no mourner. */
    static FuneralDebts busy() {
        FuneralDebts x = new FuneralDebts();
        x.mourner(0, 3, 10, 0);
        x.mourner(1, 5, 1, 2);
        x.mourner(6, 2, 20, 7);
        x.mourner(2, 9, 4, 5);
        x.row(2, 3, 8);
        x.see(0, 30);
        x.plan(0, 0);
        x.plan(1, 1);
        x.book(0, 0);
        Check.parish(x, "more 6 p<1;yard 3");
        x.image();
        x.pass(2);
        x.away(3, true);
        x.debt(321);
        x.row(2, 1, 4);
        x.see(1, 7);
        x.plan(3, 2);
        x.book(1, 9);
        Check.parish(x, "less 2 y>4&d<5");
        Check.feed(x, "less 4 v=5");
        for (int sort = 0; sort <= 4; sort++) {
            x.tape(sort, sort, 5);
            x.item(sort, 0, 3);
            x.item(sort, 4, -2);
        }
        x.act(2, 2, 11);
        return x;
    }

    /** As many of all as there may be, and an image; tape 0 is a row of 60. */
    static FuneralDebts full() {
        FuneralDebts x = new FuneralDebts();
        for (int m = 0; m < 6; m++) {
            x.mourner(m == 5 ? 6 : m, m, 3 * m, m);
        }
        for (int n = 0; n < 6; n++) {
            Check.parish(x, "yard " + n % 3);
        }
        for (int n = 0; n < 5; n++) {
            x.see(n, 0);
        }
        for (int n = 0; n < 8; n++) {
            x.plan(n % 4, n % 5);
            x.book(n % 5, n % 5);
        }
        x.tape(0, 1, 60);
        x.item(0, 59, 9);
        x.image();
        Check.feed(x, "x".repeat(100));
        return x;
    }
}

/** Promises 22 to 32: judging, the image, acts, tapes. */
public final class JudgingTest {
    private static final long NO = FuneralDebts.NO;
    private static final Check check = new Check();

    public static void main(String[] args) {
        judge();
        image();
        undo();
        undoParish();
        act();
        trace();
        taken();
        count();
        tape();
        item();
        read();
        shift();
        check.finish();
    }

    private static void judge() {
        check.about("promise 22");
        FuneralDebts x = new FuneralDebts();
        check.due("no mourners, nothing on the tape", x.judge(0, 0), -5);
        check.due("no mourners, wherever", x.judge(5, Integer.MIN_VALUE), -5);
        x.tape(0, 1, 0);
        check.due("no mourners, an empty row", x.judge(0, 7), -5);
        x.tape(1, 0, 5);
        check.due("no mourners, bytes", x.judge(1, 0), -12);
        x.mourner(0, 3, 10, 0);
        x.mourner(1, 5, 1, 2);
        x.mourner(0, 0, 0, 0);
        x.away(2, true);
        check.due("tape -1", x.judge(-1, 0), -1);
        check.due("tape 6", x.judge(6, 0), -1);
        int[] others = {0, 2, 3, 4};
        for (int sort : others) {
            x.tape(1, sort, 5);
            check.due("sort " + sort, x.judge(1, -1), -12);
        }
        check.due("nothing on the tape", x.judge(2, 0), 100);
        check.due("an empty row", x.judge(0, 0), 100);
        x.tape(0, 1, 5);
        check.due("below 0", x.judge(0, -1), 100);
        check.due("far below 0", x.judge(0, Integer.MIN_VALUE), 100);
        check.due("beyond the end", x.judge(0, 6), 100);
        check.due("far beyond", x.judge(0, Integer.MAX_VALUE), 100);
        check.due("at the end", x.judge(0, 5), 100);
        check.due("the first otherwise", x.judge(0, 0), 0);
        long[] shares = {7, 48, 52, 0, 48};
        for (int i = 0; i < 5; i++) {
            x.item(0, i, shares[i]);
        }
        check.due("all so", x.judge(0, 1), -5);
        check.due("one looked at", x.judge(0, 4), 101);
        x.item(0, 4, 52);
        x.item(0, 3, 48);
        check.due("two looked at", x.judge(0, 3), 102);
        check.due("one away pays nothing", x.judge(0, 1), 2);
        x.item(0, 2, 51);
        check.due("the second", x.judge(0, 1), 1);
        FuneralDebts y = new FuneralDebts();
        y.mourner(0, 0, 0, 0);
        y.tape(0, 1, 1);
        check.due("of one mourner", y.judge(0, 0), 0);
        y.tape(0, -1, 0);
        check.due("nothing any more", y.judge(0, 0), 100);
    }

    private static void image() {
        check.about("promise 23");
        FuneralDebts x = new FuneralDebts();
        check.due("of nobody", x.image(), 0);
        x.mourner(0, 0, 0, 0);
        x.mourner(0, 0, 0, 0);
        check.due("undone", x.undo(), 0);
        check.due("nobody", x.count(0), 0);
        x.mourner(0, 0, 0, 0);
        check.due("of one", x.image(), 1);
        x.set(0, 1, 4);
        check.due("the newest", x.image(), 1);
        x.set(0, 1, 5);
        x.undo();
        check.due("holds", x.of(0, 3), 4);
    }

    private static void undo() {
        check.about("promise 24");
        FuneralDebts x = new FuneralDebts();
        check.due("none", x.undo(), -3);
        x.mourner(6, 2, 3, 4);
        x.mourner(1, 5, 6, 7);
        x.row(0, 2, 8);
        x.pass(1);
        x.away(1, true);
        x.see(0, 5);
        x.plan(0, 0);
        x.plan(3, 1);
        x.book(0, 1);
        int yard = x.of(0, 3);
        int paid = x.of(0, 5);
        x.image();
        x.set(0, 0, 20);
        x.set(0, 1, 9);
        x.row(0, 2, 1);
        x.away(1, false);
        x.debt(999);
        x.pass(2);
        x.see(-1, 0);
        x.see(0, 6);
        x.see(0, 7);
        x.plan(-1, 0);
        x.book(-1, 0);
        x.mourner(4, 1, 1, 1);
        x.feed('y');
        x.act(0, 2, 3);
        int ran = x.count(6);
        x.tape(0, 1, 3);
        for (int times = 0; times < 2; times++) {
            check.due("undone", x.undo(), 2);
            check.due("mourners", x.count(0), 2);
            check.due("kind", x.of(0, 0), 6);
            check.due("v", x.of(1, 1), 5);
            check.due("love", x.of(0, 2), 3);
            check.due("yard", x.of(0, 3), yard);
            check.due("paid", x.of(0, 5), paid);
            check.due("away", x.told(3), 2);
            check.due("debt", x.told(2), 100);
            check.due("day", x.told(0), 1);
            check.due("seen", x.count(2), 1);
            check.due("plan", x.count(3), 2);
            check.due("book", x.count(4), 1);
            check.due("the text stays", x.count(5), 1);
            check.due("the trace stays", x.count(6), ran);
            check.due("tapes stay", x.read(0, 2), 0);
            check.due("row", x.row(0, 2, 3), 8);
            check.due("can", x.can(0, 0), x.of(0, 6) == 5 ? 10 : 0);
            // The image holds on: what comes now is undone again.
            x.mourner(0, 0, 0, 0);
        }
        check.due("one taken back left nothing", x.of(2, 5) + x.of(2, 4) + x.of(2, 3), 0);
        // One that comes where another was taken back is as new.
        FuneralDebts y = new FuneralDebts();
        y.image();
        y.mourner(6, 0, 0, 0);
        y.row(0, 0, 9);
        y.pass(1);
        y.away(0, true);
        y.undo();
        y.mourner(6, 0, 0, 0);
        check.due("its row", y.of(0, 10), 20);
        check.due("away", y.of(0, 4), 0);
        check.due("paid", y.of(0, 5), 0);
    }

    private static void undoParish() {
        check.about("promise 24, which parish holds");
        FuneralDebts x = new FuneralDebts();
        x.image();
        Check.parish(x, "yard 5");
        x.undo();
        check.due("none holds", x.told(1), 2);
        check.due("but it is there", x.count(1), 1);
        Check.parish(x, "yard 6");
        x.image();
        check.due("the third", Check.parish(x, "yard 7"), 2);
        x.undo();
        check.due("the second holds", x.told(1), 6);
        check.due("three", x.count(1), 3);
        check.due("the fourth", Check.parish(x, "yard 8"), 3);
        check.due("holds", x.told(1), 8);
    }

    /** One act of mourner 1, of a kind, with v 3: its answer and the bodies that ran. */
    private static void acts(int kind, int act, int x, int answer, int... bodies) {
        FuneralDebts f = new FuneralDebts();
        f.mourner(0, 9, 9, 9);
        f.mourner(kind, 3, 0, 0);
        f.act(0, 2, 1);
        String call = "kind " + kind + " act " + act + " with " + x;
        check.due(call, f.act(1, act, x), answer);
        check.due(call + " bodies", f.count(6), bodies.length);
        for (int i = 0; i < bodies.length; i++) {
            check.due(call + " trace " + i, f.trace(i), bodies[i]);
        }
        check.due(call + " trace end", f.trace(bodies.length), -1);
    }

    private static void act() {
        check.about("promise 25");
        acts(0, 0, 7, 8, 10);
        acts(0, 1, 7, 5, 11, 10);
        acts(0, 2, 7, 10, 12, 11, 10);
        acts(1, 0, 7, 8, 10);
        acts(1, 1, 7, 5 ^ 6, 20, 11, 10);
        acts(1, 2, 7, 2 * (5 ^ 6), 12, 20, 11, 10);
        acts(2, 0, 7, 22, 30, 10);
        acts(2, 1, 7, 19, 11, 30, 10);
        acts(2, 2, 7, 38, 12, 11, 30, 10);
        acts(3, 0, 7, 8, 10);
        acts(3, 1, 7, 5, 11, 10);
        acts(3, 2, 7, 10 + (1 + 1 - 3), 40, 12, 11, 10, 11, 10);
        acts(4, 0, 7, -8, 50, 10);
        acts(4, 1, 7, (-9 - 3) ^ 6, 51, 20, 11, 50, 10);
        acts(4, 2, 7, 2 * ((-9 - 3) ^ 6), 12, 51, 20, 11, 50, 10);
        acts(5, 0, 7, 22, 30, 10);
        acts(5, 1, 7, 19, 11, 30, 10);
        acts(5, 2, 7, 2 * (19 - 3), 60, 12, 11, 30, 10);
        acts(6, 0, 7, 8 ^ 3, 71, 10);
        acts(6, 1, 7, (8 ^ 3) - 3 + 3, 70, 11, 71, 10, 10);
        acts(6, 2, 7, 2 * ((8 ^ 3) - 3 + 3) + ((2 ^ 3) - 3 + 3),
                40, 12, 70, 11, 71, 10, 10, 70, 11, 71, 10, 10);
        int most = Integer.MAX_VALUE;
        acts(0, 0, most, most + 1, 10);
        acts(2, 0, most, most * 3 + 1, 30, 10);
        acts(0, 2, most, 2 * (most + 1 - 3), 12, 11, 10);
        acts(4, 0, most, -(most + 1), 50, 10);
        int[][] none = {{2, 0}, {-1, 0}, {0, 3}, {0, -1}};
        for (int[] call : none) {
            FuneralDebts x = new FuneralDebts();
            x.mourner(0, 0, 0, 0);
            x.mourner(0, 0, 0, 0);
            x.act(1, 2, 5);
            check.due("no such", x.act(call[0], call[1], 5), 0);
            check.due("no trace then", x.trace(0), -1);
            check.due("none ran", x.count(6), 0);
        }
    }

    private static void trace() {
        check.about("promise 26");
        FuneralDebts x = new FuneralDebts();
        check.due("none", x.trace(0), -1);
        x.mourner(6, 0, 0, 0);
        x.act(0, 2, 0);
        check.due("first", x.trace(0), 40);
        check.due("last", x.trace(11), 10);
        check.due("beyond", x.trace(12), -1);
        check.due("-1", x.trace(-1), -1);
        check.due("20", x.trace(20), -1);
        check.due("extreme", x.trace(Integer.MIN_VALUE), -1);
        x.act(0, 0, 0);
        check.due("the latest alone", x.trace(2), -1);
    }

    private static void taken() {
        check.about("promise 27");
        boolean[][] under = new boolean[7][7];
        int[] above = {-1, 0, 0, 0, 1, 2, 3};
        for (int kind = 0; kind < 7; kind++) {
            for (int k = kind; k >= 0; k = above[k]) {
                under[kind][k] = true;
            }
        }
        for (int kind = 0; kind < 7; kind++) {
            FuneralDebts x = new FuneralDebts();
            x.mourner(kind, 0, 0, 0);
            for (int k = 0; k < 7; k++) {
                check.due(kind + " as " + k, x.taken(0, k), under[kind][k] ? kind : -12);
            }
            check.due("k 7", x.taken(0, 7), -2);
            check.due("k -1", x.taken(0, -1), -2);
            check.due("mourner 1", x.taken(1, 0), -11);
            check.due("mourner -1", x.taken(-1, 6), -11);
            check.due("bad ahead of nothing", x.taken(1, 7), -2);
        }
    }

    private static void count() {
        check.about("promise 28");
        FuneralDebts x = new FuneralDebts();
        Check.parish(x, "yard 1");
        x.mourner(0, 0, 0, 0);
        x.mourner(0, 0, 0, 0);
        for (int n = 0; n < 3; n++) {
            x.see(0, 0);
        }
        for (int n = 0; n < 4; n++) {
            x.plan(0, 0);
        }
        for (int n = 0; n < 5; n++) {
            x.book(0, 0);
        }
        Check.feed(x, "yard 1");
        x.act(0, 2, 0);
        int[] due = {2, 1, 3, 4, 5, 6, 3};
        for (int what = 0; what < due.length; what++) {
            check.due("what " + what, x.count(what), due[what]);
        }
        check.due("what 7", x.count(7), -2);
        check.due("what -1", x.count(-1), -2);
    }

    private static void tape() {
        check.about("promise 29");
        FuneralDebts x = new FuneralDebts();
        check.due("tape -1", x.tape(-1, 5, 61), -1);
        check.due("tape 6", x.tape(6, -1, 0), -1);
        check.due("sort 5", x.tape(0, 5, 0), -2);
        check.due("sort -2", x.tape(0, -2, -1), -2);
        check.due("61", x.tape(0, 0, 61), -2);
        check.due("-1", x.tape(0, 0, -1), -14);
        check.due("far below", x.tape(0, 4, Integer.MIN_VALUE), -14);
        check.due("far above", x.tape(0, 4, Integer.MAX_VALUE), -2);
        check.due("holds nothing", x.item(0, 0, 0), -11);
        for (int sort = 0; sort <= 4; sort++) {
            check.due("60 of " + sort, x.tape(5, sort, 60), 1);
            check.due("the last", x.read(5, 59), 0);
            x.item(5, 59, 1);
            x.item(5, 0, 1);
        }
        check.due("anew", x.tape(5, 4, 60), 1);
        check.due("all 0", x.read(5, 59) + x.read(5, 0), 0);
        check.due("0", x.tape(5, 3, 0), 1);
        check.due("no place", x.item(5, 0, 0), -13);
        check.due("nothing", x.tape(5, -1, -99), 1);
        check.due("holds nothing", x.item(5, 0, 0), -11);
        check.due("nor reads", x.read(5, 0), NO);
    }

    private static void item() {
        check.about("promise 30");
        FuneralDebts x = new FuneralDebts();
        long[][] values = {
            {200, -56, 200, 200, 200, 1},
            {-129, 127, -129, -129, -129, 1},
            {70000, 112, 4464, 70000, 70000, 1},
            {40000, 64, -25536, 40000, 40000, 1},
            {9999999999L, -1, -7169, 1410065407, 9999999999L, 1},
            {1L << 40, 0, 0, 0, 1L << 40, 1},
            {Long.MIN_VALUE, 0, 0, 0, Long.MIN_VALUE, 1},
            {-1, -1, -1, -1, -1, 1},
            {0, 0, 0, 0, 0, 0},
        };
        for (int sort = 0; sort <= 4; sort++) {
            x.tape(sort, sort, 3);
            for (long[] value : values) {
                check.due("item", x.item(sort, 2, value[0]), 1);
                check.due(value[0] + " as " + sort, x.read(sort, 2), value[sort + 1]);
            }
            check.due("others stay", x.read(sort, 1), 0);
            check.due("place 3", x.item(sort, 3, 0), -13);
            check.due("place -1", x.item(sort, -1, 0), -13);
        }
        check.due("tape 6", x.item(6, -1, 0), -1);
        check.due("tape -1", x.item(-1, 0, 0), -1);
        check.due("nothing ahead of place", x.item(5, -1, 0), -11);
    }

    private static void read() {
        check.about("promise 31");
        FuneralDebts x = new FuneralDebts();
        x.tape(3, 3, 2);
        x.item(3, 0, 5);
        x.item(3, 1, -6);
        check.due("first", x.read(3, 0), 5);
        check.due("last", x.read(3, 1), -6);
        check.due("beyond", x.read(3, 2), NO);
        check.due("-1", x.read(3, -1), NO);
        check.due("extreme", x.read(3, Integer.MIN_VALUE), NO);
        check.due("nothing there", x.read(2, 0), NO);
        check.due("tape 6", x.read(6, 0), NO);
        check.due("tape -1", x.read(-1, 0), NO);
    }

    private static void shift() {
        check.about("promise 32");
        FuneralDebts x = new FuneralDebts();
        x.tape(0, 2, 5);
        x.tape(1, 2, 3);
        x.tape(2, 1, 5);
        for (int i = 0; i < 5; i++) {
            x.item(0, i, i + 1);
        }
        check.due("to another", x.shift(0, 3, 1, 1, 2), 2);
        tells(x, 1, 0, 4, 5);
        check.due("up", x.shift(0, 0, 0, 1, 4), 4);
        tells(x, 0, 1, 1, 2, 3, 4);
        check.due("down", x.shift(0, 2, 0, 0, 3), 3);
        tells(x, 0, 2, 3, 4, 3, 4);
        check.due("none", x.shift(0, 5, 1, 3, 0), 0);
        check.due("all", x.shift(0, 0, 0, 0, 5), 5);
        tells(x, 0, 2, 3, 4, 3, 4);
        check.due("tape -1", x.shift(-1, 0, 5, 0, 0), -1);
        check.due("other 6", x.shift(5, 0, 6, 0, 0), -1);
        check.due("nothing there", x.shift(5, 0, 0, 0, 0), -11);
        check.due("nothing at the other", x.shift(2, -1, 5, 0, 0), -11);
        check.due("unlike sorts", x.shift(0, -1, 2, 0, 1), -12);
        int most = Integer.MAX_VALUE;
        int[][] places = {{0, 0, -1}, {-1, 0, 1}, {0, -1, 1}, {0, 0, 4}, {3, 0, 3}, {0, 2, 2},
            {6, 0, 0}, {0, 4, 0}, {most, 0, 1}, {0, most, 1}, {1, 0, most}, {most, most, most},
            {Integer.MIN_VALUE, 0, 1}, {0, 0, Integer.MIN_VALUE}};
        for (int[] p : places) {
            check.due(p[0] + " to " + p[1] + " by " + p[2], x.shift(0, p[0], 1, p[1], p[2]), -13);
        }
        tells(x, 0, 2, 3, 4, 3, 4);
        tells(x, 1, 0, 4, 5);
        for (int sort = 0; sort <= 4; sort++) {
            x.tape(3, sort, 2);
            x.tape(4, sort, 2);
            x.item(3, 0, -1);
            check.due("sort " + sort, x.shift(3, 0, 4, 1, 1), 1);
            check.due("came", x.read(4, 1), sort == 4 ? 1 : -1);
        }
    }

    private static void tells(FuneralDebts x, int tape, long... items) {
        for (int i = 0; i < items.length; i++) {
            check.due("tape " + tape + " at " + i, x.read(tape, i), items[i]);
        }
        check.due("tape " + tape + " ends", x.read(tape, items.length), NO);
    }
}

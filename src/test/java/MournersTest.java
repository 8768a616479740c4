/** Promises 1 to 10: mourners and parishes. */
public final class MournersTest {
    private static final int NO_SUCH = -10001;
    private static final Check check = new Check();

    public static void main(String[] args) {
        aNewObject();
        mourner();
        of();
        ofRates();
        ofAway();
        shares();
        set();
        away();
        debt();
        row();
        feed();
        parish();
        parishFaults();
        parishLimits();
        parishTests();
        parishJoins();
        told();
        still();
        gains();
        owed();
        check.finish();
    }

    private static void aNewObject() {
        check.about("promise 1");
        FuneralDebts x = new FuneralDebts();
        for (int what = 0; what <= 6; what++) {
            check.due("count " + what, x.count(what), 0);
        }
        check.due("DAY", x.told(0), 0);
        check.due("FALL", x.told(1), 2);
        check.due("DEBT", x.told(2), 100);
        check.due("who is AWAY", x.told(3), 0);
        check.due("no image", x.undo(), -3);
        check.due("no trace", x.trace(0), -1);
        for (int tape = 0; tape < 6; tape++) {
            check.due("tape " + tape, x.read(tape, 0), FuneralDebts.NO);
        }
        check.due("NONE", FuneralDebts.NONE, -1);
        check.due("BAD", FuneralDebts.BAD, -2);
        check.due("STATE", FuneralDebts.STATE, -3);
        check.due("FULL", FuneralDebts.FULL, -4);
        check.due("NO", FuneralDebts.NO, Long.MIN_VALUE);
    }

    private static void mourner() {
        check.about("promise 2");
        FuneralDebts x = new FuneralDebts();
        check.due("kind -1", x.mourner(-1, 0, 0, 0), -1);
        check.due("kind 7", x.mourner(7, 0, 0, 0), -1);
        check.due("yard -1", x.mourner(0, 0, 0, -1), -1);
        check.due("yard 10", x.mourner(0, 0, 0, 10), -1);
        check.due("v -1", x.mourner(0, -1, 0, 0), -2);
        check.due("v 10", x.mourner(0, 10, 0, 0), -2);
        check.due("love -1", x.mourner(0, 0, -1, 0), -2);
        check.due("love 21", x.mourner(0, 0, 21, 0), -2);
        check.due("yard ahead of v", x.mourner(0, 10, 0, 10), -1);
        check.due("extremes", x.mourner(Integer.MIN_VALUE, 0, 0, Integer.MAX_VALUE), -1);
        check.due("none came", x.count(0), 0);
        for (int number = 0; number < 6; number++) {
            check.due("comes", x.mourner(number + 1, 9, 20, 9), number);
        }
        check.due("full", x.mourner(0, 0, 0, 0), -4);
        check.due("v ahead of full", x.mourner(0, 10, 0, 0), -2);
        check.due("kind ahead of full", x.mourner(7, 0, 0, 0), -1);
        check.due("six", x.count(0), 6);
    }

    /** A pays 20 of 41 parts, B 21: 48 and 51, and 1 is left over for B. */
    private static FuneralDebts two() {
        FuneralDebts x = new FuneralDebts();
        x.mourner(0, 3, 10, 0);
        x.mourner(1, 5, 1, 2);
        return x;
    }

    private static void of() {
        check.about("promise 3");
        FuneralDebts x = two();
        check.due("kind", x.of(1, 0), 1);
        check.due("v", x.of(1, 1), 5);
        check.due("love", x.of(1, 2), 1);
        check.due("yard", x.of(1, 3), 2);
        check.due("away", x.of(1, 4), 0);
        check.due("paid", x.of(1, 5), 0);
        check.due("share of A", x.of(0, 6), 48);
        check.due("share of B", x.of(1, 6), 52);
        check.due("best of A", x.of(0, 7), 0);
        check.due("best of B", x.of(1, 7), 9);
        check.due("rate 0", x.of(1, 10), 25);
        check.due("rate 9", x.of(1, 19), 7);
        check.due("worth of 0 to A", x.of(0, 20), 100 - 48);
        check.due("worth of 9 to A", x.of(0, 29), 10 - 8);
        check.due("worth of 2 to B", x.of(1, 22), 8 - 52);
        check.due("worth of 9 to B", x.of(1, 29), 1 - 25);
        int[] none = {-1, 8, 9, 30, Integer.MIN_VALUE, Integer.MAX_VALUE};
        for (int what : none) {
            check.due("what " + what, x.of(0, what), NO_SUCH);
        }
        check.due("mourner 2", x.of(2, 0), NO_SUCH);
        check.due("mourner -1", x.of(-1, 0), NO_SUCH);
        // Without love all is as dear that nobody pays: the least yard of several.
        FuneralDebts y = new FuneralDebts();
        y.mourner(0, 0, 0, 4);
        y.debt(0);
        check.due("best of several", y.of(0, 7), 0);
    }

    /** The sum at yard 3 is 14, at yard 9 it is 2; the third row counts at yards 3 and 7. */
    private static void ofRates() {
        check.about("promise 3, rates");
        int[][] at3And9 = {{14, 2}, {19, 7}, {7, 1}, {14, 1}, {19, 7}, {12, 6}, {22, 5}};
        for (int kind = 0; kind <= 6; kind++) {
            FuneralDebts x = new FuneralDebts();
            x.mourner(kind, 5, 10, 3);
            x.row(0, 3, 8);
            x.row(0, 1, 4);
            if (kind == 4) {
                check.due("vicar on day 0", x.of(0, 13), 0);
                check.due("vicar pays on day 0", x.of(0, 6), 0);
            }
            x.pass(1);
            check.due("kind " + kind + " at 3", x.of(0, 13), at3And9[kind][0]);
            check.due("kind " + kind + " at 9", x.of(0, 19), at3And9[kind][1]);
            x.pass(6);
            check.due("kind " + kind + " on day 7", x.of(0, 13), kind == 4 ? 0 : at3And9[kind][0]);
        }
        int[] below = {-5, 4, -2, -5, 4, 3, -5};
        for (int kind = 0; kind <= 6; kind++) {
            FuneralDebts x = new FuneralDebts();
            x.mourner(kind, 9, 10, 0);
            Check.parish(x, "less 25 p<9");
            x.pass(1);
            check.due("kind " + kind + " below 0", x.of(0, 10), below[kind]);
        }
        FuneralDebts y = new FuneralDebts();
        y.mourner(3, 0, 0, 0);
        y.mourner(6, 0, 0, 0);
        check.due("weeper at 4", y.of(0, 14), 12);
        check.due("weeper at 5", y.of(0, 15), 1);
        check.due("told at 4", y.of(1, 14), 12);
        check.due("told at 5", y.of(1, 15), 1);
    }

    private static void ofAway() {
        check.about("promise 3, away");
        FuneralDebts x = two();
        x.away(1, true);
        check.due("share of one away", x.of(1, 6), 0);
        check.due("share of the other", x.of(0, 6), 100);
        check.due("away", x.of(1, 4), 1);
        check.due("rate", x.of(1, 12), 21);
        check.due("worth as if there", x.of(1, 22), 8 - 52);
        check.due("best as if there", x.of(1, 7), 9);
        check.due("worth to the other", x.of(0, 20), 0);
    }

    private static void shares() {
        check.about("promise 3, shares");
        FuneralDebts x = new FuneralDebts();
        for (int m = 0; m < 3; m++) {
            x.mourner(0, 0, 0, 1);
        }
        check.due("left over goes to the first", x.of(0, 6), 34);
        check.due("second", x.of(1, 6), 33);
        check.due("third", x.of(2, 6), 33);
        Check.parish(x, "less 19 p=0;more 1 p=2");
        // 18 each less 19 and more 1: -1, 18, 19 of 37.
        check.due("below 0 pays nothing", x.of(0, 6), 0);
        check.due("its rate is below 0", x.of(0, 11), -1);
        check.due("18 of 37", x.of(1, 6), 48);
        check.due("19 of 37 and what is left", x.of(2, 6), 52);
        Check.parish(x, "less 18 p<3");
        for (int m = 0; m < 3; m++) {
            check.due("nobody pays", x.of(m, 6), 0);
        }
        Check.parish(x, "less 99 p<3");
        check.due("nobody pays below 0", x.of(1, 6), 0);
        // Weepers far off, of rate 1 each.
        FuneralDebts y = new FuneralDebts();
        y.mourner(3, 0, 0, 9);
        check.due("one far off pays all", y.of(0, 6), 100);
        y.mourner(3, 0, 0, 9);
        y.mourner(3, 0, 0, 9);
        check.due("the first of three", y.of(0, 6), 34);
        check.due("the last of three", y.of(2, 6), 33);
    }

    private static void set() {
        check.about("promise 4");
        FuneralDebts x = two();
        check.due("love", x.set(0, 0, 20), 10);
        check.due("love was", x.set(0, 0, 0), 20);
        check.due("love is", x.of(0, 2), 0);
        check.due("yard", x.set(1, 1, 9), 2);
        check.due("yard is", x.of(1, 3), 9);
        check.due("love 21", x.set(0, 0, 21), -2);
        check.due("love -1", x.set(0, 0, -1), -2);
        check.due("yard 10", x.set(0, 1, 10), -2);
        check.due("yard -1", x.set(0, 1, -1), -2);
        check.due("what 2", x.set(0, 2, 0), -1);
        check.due("what -1", x.set(0, -1, 99), -1);
        check.due("mourner 2", x.set(2, 0, 99), -1);
        check.due("mourner -1", x.set(-1, 0, 0), -1);
        check.due("nothing changed", x.of(0, 2) + x.of(0, 3), 0);
    }

    private static void away() {
        check.about("promise 5");
        FuneralDebts x = two();
        check.due("goes", x.away(1, true), 0);
        check.due("is gone", x.away(1, true), 1);
        check.due("bits", x.told(3), 2);
        check.due("comes", x.away(1, false), 1);
        check.due("is there", x.away(1, false), 0);
        check.due("bits", x.told(3), 0);
        check.due("mourner 2", x.away(2, true), -1);
        check.due("mourner -1", x.away(-1, true), -1);
        check.due("mourner 32", x.away(32, true), -1);
        check.due("nobody went", x.told(3), 0);
    }

    private static void debt() {
        check.about("promise 6");
        FuneralDebts x = two();
        check.due("0", x.debt(0), 100);
        check.due("999", x.debt(999), 0);
        check.due("1000", x.debt(1000), -2);
        check.due("-1", x.debt(-1), -2);
        check.due("is", x.told(2), 999);
        check.due("shared", x.of(0, 6) + x.of(1, 6), 999);
    }

    private static void row() {
        check.about("promise 7");
        FuneralDebts x = new FuneralDebts();
        x.mourner(0, 0, 0, 0);
        x.mourner(6, 0, 0, 0);
        check.due("first", x.row(1, 0, 9), 0);
        check.due("last", x.row(1, 3, 7), 0);
        check.due("was", x.row(1, 0, 1), 9);
        check.due("rate 8", x.of(1, 18), 2);
        check.due("rate 3", x.of(1, 13), 14 + 7);
        check.due("rate 7", x.of(1, 17), 1 + 7);
        check.due("mourner 2", x.row(2, 0, 10), -1);
        check.due("mourner -1", x.row(-1, 0, 0), -1);
        check.due("part 4", x.row(1, 4, 10), -1);
        check.due("part -1", x.row(1, -1, 0), -1);
        check.due("n 10", x.row(0, 0, 10), -2);
        check.due("n -1", x.row(1, 0, -1), -2);
        check.due("another kind", x.row(0, 0, 9), -3);
        check.due("part ahead of kind", x.row(0, 4, 9), -1);
        check.due("nothing changed", x.row(1, 0, 0), 1);
        for (int m = 2; m < 6; m++) {
            x.mourner(6, 0, 0, 0);
            check.due("row of " + m, x.row(m, 3, m), 0);
        }
        for (int m = 2; m < 6; m++) {
            check.due("rate of " + m, x.of(m, 13), 14 + m);
        }
    }

    private static void feed() {
        check.about("promise 8");
        FuneralDebts x = new FuneralDebts();
        check.due("-1", x.feed(-1), -2);
        check.due("128", x.feed(128), -2);
        check.due("0", x.feed(0), 1);
        check.due("127", x.feed(127), 2);
        for (int n = 3; n <= 100; n++) {
            check.due("sign " + n, x.feed('y'), n);
        }
        check.due("full", x.feed('y'), -4);
        check.due("bad ahead of full", x.feed(128), -2);
        check.due("has", x.count(5), 100);
    }

    private static void parish() {
        check.about("promise 9");
        FuneralDebts x = new FuneralDebts();
        check.due("one", Check.parish(x, "yard 3"), 0);
        check.due("the text is empty", x.count(5), 0);
        check.due("fault", Check.parish(x, "yard 4;"), -17);
        check.due("the text is empty by a fault", x.count(5), 0);
        check.due("the one that held holds", x.told(1), 3);
        check.due("two", Check.parish(x, "yard 05;yard 12;more 1 p=0"), 1);
        check.due("the last yard", x.told(1), 12);
        check.due("without yard", Check.parish(x, "more 1 p=0"), 2);
        check.due("fall", x.told(1), 2);
        for (int number = 3; number < 6; number++) {
            check.due("more", Check.parish(x, "yard 0"), number);
        }
        Check.feed(x, "yard 7");
        check.due("full", x.parish(), -4);
        check.due("the text stays", x.count(5), 6);
        Check.feed(x, "?");
        check.due("full ahead of a fault", x.parish(), -4);
        check.due("parishes", x.count(1), 6);
        check.due("the newest holds", x.told(1), 0);
        // What was read ahead of a fault is gone.
        FuneralDebts y = new FuneralDebts();
        y.mourner(0, 0, 0, 0);
        check.due("fault", Check.parish(y, "more 50 p=0;yard 9;less 7 p=0|!p=1;?"), -45);
        check.due("one", Check.parish(y, "more 1 p=0"), 0);
        check.due("fall", y.told(1), 2);
        check.due("rate", y.of(0, 11), 20 + 1 - 2);
    }

    private static void fault(String text, int place) {
        FuneralDebts x = new FuneralDebts();
        check.due("'" + text + "'", Check.parish(x, text), -10 - place);
        check.due("none holds", x.told(1) + x.count(1), 2);
    }

    private static void parishFaults() {
        check.about("promise 9, faults");
        fault("", 0);
        fault(" ", 0);
        fault("q", 0);
        fault(";", 0);
        fault("m", 1);
        fault("mess 1 p=1", 1);
        fault("lass 1 p=1", 1);
        fault("yarn 1", 3);
        fault("more1 p=1", 4);
        fault("more  1 p=1", 5);
        fault("more a p=1", 5);
        fault("more 123 p=1", 7);
        fault("more 1  p=1", 7);
        fault("more 1p=1", 6);
        fault("more 1", 6);
        fault("more 1 ", 7);
        fault("more 1 q=1", 7);
        fault("more 1 p!1", 8);
        fault("more 1 p=", 9);
        fault("more 1 p=a", 9);
        fault("more 1 p=123", 11);
        fault("more 1 p=1 ", 10);
        fault("more 1 p=1;", 11);
        fault("more 1 p=1&", 11);
        fault("more 1 p=1|", 11);
        fault("more 1 p=1&&p=1", 11);
        fault("more 1 p=1)", 10);
        fault("more 1 (p=1", 11);
        fault("more 1 (p=1;p=1)", 11);
        fault("more 1 ()", 8);
        fault("more 1 (p=1)(p=1)", 12);
        fault("more 1 !", 8);
        fault("more 1 p!=1", 8);
        fault("more 1 p=1!p=1", 10);
        fault("yard", 4);
        fault("yard ", 5);
        fault("yard 1 p=1", 6);
        fault("yard 123", 7);
        fault("yard 12;yard x", 13);
        fault("More 1 p=1", 0);
    }

    private static void parishLimits() {
        check.about("promise 9, limits");
        fault("more 1 (((((p=1)))))", 11);
        fault("more 1 ((((!p=1))))", 11);
        fault("more 1 !!!!!p=1", 11);
        fault("more 1 !(!((p=1)))", 11);
        fault("less 1 p=1|((p=1)&(((p=1))))|!!!!(p=1)", 33);
        FuneralDebts x = new FuneralDebts();
        check.due("four within", Check.parish(x, "more 1 ((((p=1))))"), 0);
        check.due("four not", Check.parish(x, "more 1 !!!!p=1"), 1);
        check.due("four each", Check.parish(x, "more 1 !!((p=1))&!(!(p=1))|((((p=1))))"), 2);
        String ten = "yard 1;yard 2;yard 3;yard 4;yard 5;yard 6;yard 7;yard 8;yard 9;yard 10";
        check.due("ten clauses", Check.parish(x, ten), 3);
        check.due("the tenth counts", x.told(1), 10);
        fault(ten + ";yard 1", ten.length());
        StringBuilder long100 = new StringBuilder("more 1 p=0");
        while (long100.length() < 97) {
            long100.append("|p=0");
        }
        // 98 bytes hold 23 tests; two more make 100 bytes that end too early.
        check.due("98 bytes", Check.parish(x, long100.toString()), 4);
        fault(long100 + "|p", 100);
        // However much was read ahead of faults, as much can be read again.
        FuneralDebts y = new FuneralDebts();
        y.mourner(0, 0, 0, 0);
        for (int n = 0; n < 2; n++) {
            check.due("fault", Check.parish(y, long100.toString().replace('0', '9') + "|p"), -110);
        }
        check.due("98 bytes", Check.parish(y, long100.toString().replace('0', '9')), 0);
        check.due("none of 23 is so", y.of(0, 10), 20);
        String last = "less 1 " + long100.substring(7).replace('0', '9').replaceAll("9$", "0");
        check.due("98 bytes", Check.parish(y, last), 1);
        check.due("the last of 23 is so", y.of(0, 10), 19);
    }

    /** What a clause adds to the rate of a mourner at a yard (20 without). */
    private static void adds(String tests, int mourner, int yard, boolean is) {
        FuneralDebts x = new FuneralDebts();
        for (int m = 0; m < 3; m++) {
            x.mourner(m == 2 ? 3 : 0, 2 * m, 5 * m, 9);
        }
        x.pass(11);
        check.due("reads " + tests, Check.parish(x, "yard 0;more 7 " + tests), 0);
        check.due(tests + " of " + mourner + " at " + yard, x.of(mourner, 10 + yard), is ? 27 : 20);
    }

    /** Mourner 2 is a weeper with v 4 and love 10, and day 11 is 1 modulo 10. */
    private static void parishTests() {
        check.about("promise 9, tests");
        String[] equal = {"p=2", "k=3", "v=4", "l=10", "y=4", "d=1", "l=10", "d=01"};
        String[] less = {"p<3", "k<4", "v<5", "l<11", "y<5", "d<2"};
        String[] greater = {"p>1", "k>2", "v>3", "l>9", "y>3", "d>0"};
        String[] not = {"p=1", "k=0", "v=5", "l=0", "y=9", "d=11", "p<2", "k<3", "v<4", "l<10",
            "y<4", "d<1", "p>2", "k>3", "v>4", "l>10", "y>4", "d>1"};
        for (String test : equal) {
            adds(test, 2, 4, true);
        }
        for (String test : less) {
            adds(test, 2, 4, true);
        }
        for (String test : greater) {
            adds(test, 2, 4, true);
        }
        for (String test : not) {
            adds(test, 2, 4, false);
        }
    }

    /** Of mourner 1, a is "p=1" (so) and f "p=0" (not so). */
    private static void parishJoins() {
        check.about("promise 9, joins");
        String[] so = {"a", "!f", "!!a", "a|f", "f|a", "a&a", "a|f&f", "f&f|a", "!f&a", "!(a&f)",
            "(a|f)&a", "f|f|a", "f|a&a|f", "a|a&f", "f&a|a", "!(f|f)", "!!(a)", "((a))&!((f))",
            "f|(f|(f|(f|a)))", "a&a&a|f", "!f&!f"};
        String[] not = {"f", "!a", "f|f", "a&f", "f&a", "f&a|f", "(a|f)&f", "f&(a|a)", "!(a|f)",
            "!a|f", "!a&a", "f|f&a", "a&(f|f)", "a&a&f", "!(f|a)", "!!f", "a&!a", "f|a&f|f"};
        for (String join : so) {
            adds(join.replace("a", "p=1").replace("f", "p=0"), 1, 0, true);
        }
        for (String join : not) {
            adds(join.replace("a", "p=1").replace("f", "p=0"), 1, 0, false);
        }
        FuneralDebts x = new FuneralDebts();
        x.mourner(0, 0, 0, 0);
        Check.parish(x, "more 5 p=0;less 30 y>0;more 7 y=1|y=2;yard 1;yard 3");
        check.due("at 0", x.of(0, 10), 25);
        check.due("at 1", x.of(0, 11), 25 - 30 + 7 - 3);
        check.due("at 4", x.of(0, 14), 25 - 30 - 12);
    }

    private static void told() {
        check.about("promise 10");
        FuneralDebts x = two();
        x.pass(4);
        x.debt(7);
        x.away(0, true);
        Check.parish(x, "yard 9");
        check.due("day", x.told(0), 4);
        check.due("fall", x.told(1), 9);
        check.due("debt", x.told(2), 7);
        check.due("away", x.told(3), 1);
        check.due("what 8", x.told(8), -1);
        check.due("what -1", x.told(-1), -1);
    }

    private static void still() {
        check.about("promise 10, still");
        FuneralDebts x = two();
        // B goes to 9 on the first day; then A stays at 0 and B at 9.
        check.due("one day", x.told(4), 1);
        x.pass(1);
        check.due("none", x.told(4), 0);
        x.set(1, 1, 0);
        check.due("back", x.told(4), 1);
        x.away(1, true);
        check.due("one away does not move", x.told(4), 0);
        check.due("asking changes nothing", x.told(0) + x.of(1, 3) + x.of(1, 5), 1 + 0 + 25);
        // Alone at yard 0 it pays nothing on a day with less for all, and 100 on any other; at 1
        // it never pays. On each day it goes to where it pays nothing.
        stillAlone("less 99 d=0|d=2|d=4", 6);
        stillAlone("less 99 d=0|d=2|d=4|d=6", 8);
        stillAlone("less 99 d=0|d=2|d=4|d=6|d=8", -5);
        stillAlone("less 99 y<9", 1);
        // A vicar: from day 1 on, odd days send it to 1, even ones to 2, but day 10 sends it to 0,
        // and so do 7, 14 and 21; so day 21, behind 20 days, is the first on which it stays.
        FuneralDebts y = new FuneralDebts();
        y.mourner(4, 0, 1, 9);
        Check.parish(y, "yard 0;less 99 d=0|y>1|y=1&(d=1|d=3|d=5|d=7|d=9)");
        y.pass(1);
        check.due("twenty days", y.told(4), 20);
        y.pass(20);
        check.due("none", y.told(4), 0);
    }

    private static void stillAlone(String text, int days) {
        FuneralDebts x = new FuneralDebts();
        x.mourner(0, 0, 1, 9);
        Check.parish(x, "yard 0;less 99 y>0;" + text);
        check.due("still by " + text, x.told(4), days);
    }

    private static void gains() {
        check.about("promise 10, gains");
        FuneralDebts x = two();
        // B goes to 9: 1 - 25 there, 8 - 52 here. A pays 75 then, and 48 now.
        check.due("B is better off", x.told(5), 2);
        check.due("asking changes nothing", x.told(0) + x.of(1, 3) + x.of(1, 5), 2);
        x.away(1, true);
        check.due("not one away", x.told(5), 0);
        x.away(1, false);
        x.pass(1);
        check.due("nobody goes", x.told(5), 0);
        // Each goes to 9 to pay less, but as both do, both pay 50 as before.
        FuneralDebts y = new FuneralDebts();
        y.mourner(0, 0, 0, 0);
        y.mourner(0, 0, 0, 0);
        check.due("gone, but no better off", y.told(5), 0);
        check.due("behind a day", y.on(1, 10) + y.on(1, 11), 18);
        // Both come to 0, where with love for it each is better off than far away.
        FuneralDebts w = new FuneralDebts();
        w.mourner(0, 0, 20, 9);
        w.mourner(0, 0, 20, 9);
        check.due("both gain", w.told(5), 3);
        // On day 1 the vicar would pay, and be worse off there than now.
        FuneralDebts z = new FuneralDebts();
        z.mourner(4, 0, 1, 9);
        check.due("on the same day", z.told(5), 1);
    }

    private static void owed() {
        check.about("promise 10, owed");
        FuneralDebts x = two();
        check.due("all", x.told(6), 1000);
        check.due("the least of all", x.told(7), 0);
        x.see(0, 48);
        // 20 * D / 41 cut is 48 for D of 99 and 100.
        check.due("two", x.told(6), 2);
        check.due("99", x.told(7), 99);
        x.see(1, 52);
        check.due("one", x.told(6), 1);
        check.due("100", x.told(7), 100);
        x.see(0, 47);
        check.due("none", x.told(6), 0);
        check.due("no least", x.told(7), -5);
        x.see(-1, 0);
        x.away(0, true);
        x.see(0, 0);
        check.due("one away", x.told(6), 1000);
        x.see(0, 1);
        check.due("one away pays nothing", x.told(6), 0);
        check.due("debt stays", x.told(2), 100);
    }
}

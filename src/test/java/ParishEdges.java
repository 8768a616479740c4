/** The edges of promises 8 and 9, and of what the Terms say of PARISHES. */
final class ParishEdges {
    private final Edges e;

    private ParishEdges(Edges e) {
        this.e = e;
    }

    static void run(Edges e) {
        ParishEdges edges = new ParishEdges(e);
        edges.feed();
        edges.feedRefused();
        edges.text();
        edges.clauses();
        edges.words();
        edges.amounts();
        edges.joins();
        edges.parts();
        edges.tests();
        edges.facts();
        edges.within();
        edges.faults();
        edges.endsTooEarly();
        edges.newestHolds();
        edges.fall();
        edges.parish();
        edges.parishFull();
        edges.parishFault();
    }

    /** A text is a parish: the first of a new object. */
    private void good(String text) {
        FuneralDebts x = Made.empty();
        e.due("'" + text + "'", Check.parish(x, text), 0);
        e.due("'" + text + "' is one", x.count(1), 1);
        e.due("'" + text + "' is read", x.count(5), 0);
    }

    /** A text has its fault at a place, and nothing holds by it. */
    private void fault(String text, int place) {
        FuneralDebts x = Made.empty();
        e.due("'" + text + "'", Check.parish(x, text), -10 - place);
        e.due("'" + text + "' is none", x.count(1), 0);
        e.due("'" + text + "' is gone", x.count(5), 0);
        e.due("'" + text + "' has no FALL", x.told(1), 2);
    }

    /** Whether 7 is added for mourner 1 of three at a yard, on a day. */
    private void holds(String test, int mourner, int yard, int day, boolean so) {
        FuneralDebts x = Made.empty();
        x.mourner(0, 0, 0, 9);
        x.mourner(5, 4, 10, 9);
        x.mourner(3, 9, 20, 9);
        x.pass(day);
        e.due("reads " + test, Check.parish(x, "yard 0;more 7 " + test), 0);
        FuneralDebts y = Made.empty();
        y.mourner(0, 0, 0, 9);
        y.mourner(5, 4, 10, 9);
        y.mourner(3, 9, 20, 9);
        y.pass(day);
        Check.parish(y, "yard 0");
        // A BEARER has the half of 7, and a WEEPER none of it from 5 on.
        boolean is = x.of(mourner, 10 + yard) > y.of(mourner, 10 + yard);
        e.due(test + " of " + mourner + " at " + yard + " on " + day, is ? 1 : 0, so ? 1 : 0);
    }

    // ---- promise 8

    private void feed() {
        e.says(8, "A sign (0 .. 127) comes behind THE TEXT's: how many it has.");
        FuneralDebts x = Made.empty();
        e.due("the least", x.feed(0), 1);
        e.due("the most", x.feed(127), 2);
        e.due("both are there", x.count(5), 2);
        e.due("0 begins none", x.parish(), -10);
        int many = 0;
        for (char sign : "yard 12".toCharArray()) {
            many++;
            e.due("sign " + many, x.feed(sign), many);
        }
        e.due("a parish", x.parish(), 0);
        e.due("in their order", x.told(1), 12);
        e.due("from 1 again", x.feed('y'), 1);
        e.due("each sign is kept", Made::empty, y -> Check.parish(y, "yard 1\u007f"), -16);
        e.due("each sign is kept", Made::empty, y -> Check.parish(y, "yard 1\u0000"), -16);
    }

    private void feedRefused() {
        e.says(8, "BAD;");
        for (int sign : Edges.beyond(127)) {
            e.still("sign " + sign, Made::busy, x -> x.feed(sign), Edges.BAD);
        }
        // Their lowest bits would be those of a good sign.
        for (int sign : new int[] {256, 'y' + 256, 'y' - 256, 'y' + 128}) {
            e.still("sign " + sign, Made::busy, x -> x.feed(sign), Edges.BAD);
        }
        e.still("bad ahead of full", Made::full, x -> x.feed(128), Edges.BAD);
        e.still("bad ahead of full", Made::full, x -> x.feed(-1), Edges.BAD);
        e.says(8, "FULL.");
        e.still("sign 101", Made::full, x -> x.feed(0), Edges.FULL);
        e.still("sign 101", Made::full, x -> x.feed('y'), Edges.FULL);
        FuneralDebts x = Made.empty();
        for (int n = 1; n <= 100; n++) {
            e.due("sign " + n, x.feed(n == 100 ? 'y' : 'x'), n);
        }
        e.due("sign 101", x.feed('y'), Edges.FULL);
        x.parish();
        e.due("empty again", x.feed('y'), 1);
    }

    // ---- the text

    private void text() {
        e.says(Edges.TERMS, "A PARISH is read from THE TEXT (bytes, 100 at most):");
        // 10 bytes, 22 times 4 more, and then 2 more for two numbers of two digits.
        String text = "more 07 p=01" + "|p=0".repeat(22);
        e.due("bytes", text.length(), 100);
        good(text);
        FuneralDebts x = Made.several(2, 0);
        Check.parish(x, "more 07 p=09" + "|p=9".repeat(21) + "|p=1");
        e.due("the last of 100 bytes counts", x.of(0, 10) + 100 * x.of(1, 10), 20 + 2700);
        // What was read ahead of a fault leaves as much room for the next.
        String none = "more 7 p=1" + "|p=1".repeat(21) + "|p=9";
        for (int n = 0; n < 3; n++) {
            FuneralDebts y = Made.several(1, 0);
            for (int faults = 0; faults <= n; faults++) {
                e.due("a fault", Check.parish(y, none + ";x"), -109);
            }
            e.due("98 bytes", Check.parish(y, none.replace('9', '0')), 0);
            e.due("the last of 98 bytes counts", y.of(0, 10), 27);
        }
    }

    private void clauses() {
        e.says(Edges.TERMS, "CLAUSES, 1 to 10, with ; between:");
        fault("", 0);
        good("yard 0");
        String nine = "yard 1;yard 2;yard 3;yard 4;yard 5;yard 6;yard 7;yard 8;yard 9";
        good(nine);
        good(nine + ";yard 10");
        fault(nine + ";yard 10;", nine.length() + 8);
        fault(nine + ";yard 10;yard 11", nine.length() + 8);
        FuneralDebts x = Made.empty();
        Check.parish(x, nine + ";yard 10");
        e.due("the tenth counts", x.told(1), 10);
        String mores = "more 1 p=0;more 1 p=0;more 1 p=0;yard 0;yard 0;yard 0;yard 0;yard 0;yard 0";
        FuneralDebts y = Made.several(1, 0);
        e.due("ten of all sorts", Check.parish(y, mores + ";more 9 p=0"), 0);
        e.due("all count", y.of(0, 10), 20 + 3 + 9);
        fault("yard 1;", 7);
        fault("yard 1;;yard 1", 7);
        fault(";yard 1", 0);
        fault("yard 1 ;yard 1", 6);
        fault("yard 1; yard 1", 7);
        fault("yard 1,yard 1", 6);
    }

    private void words() {
        e.says(Edges.TERMS, "more n E; less n E; yard n (one blank ahead of each part behind"
                + " the word;");
        good("more 1 p=0");
        good("less 1 p=0");
        good("yard 1");
        fault("more1 p=0", 4);
        fault("less1 p=0", 4);
        fault("yard1", 4);
        fault("more  1 p=0", 5);
        fault("less  1 p=0", 5);
        fault("yard  1", 5);
        fault("more 1p=0", 6);
        fault("more 12p=0", 7);
        fault("more 1  p=0", 7);
        fault("less 1  p=0", 7);
        fault("more 1 p=0 ", 10);
        fault("more 1 p =0", 8);
        fault("more 1 p= 0", 9);
        fault("more 1 p=0 |p=0", 10);
        fault("more 1 p=0| p=0", 11);
        fault("more 1 ( p=0)", 8);
        fault("more 1 ! p=0", 8);
        fault(" more 1 p=0", 0);
        fault("yard 1 ", 6);
        fault("yard 1 p=0", 6);
        fault("more\t1 p=0", 4);
    }

    private void amounts() {
        e.says(Edges.TERMS, "n 1 or 2 digits).");
        good("more 0 p=0");
        good("more 99 p=0");
        good("more 00 p=0");
        fault("more 000 p=0", 7);
        fault("less 123 p=0", 7);
        fault("yard 100", 7);
        fault("more p=0", 5);
        fault("less x p=0", 5);
        fault("yard x", 5);
        fault("more -1 p=0", 5);
        fault("more +1 p=0", 5);
        fault("more 1/ p=0", 6);
        fault("more 1: p=0", 6);
        fault("more / p=0", 5);
        fault("more : p=0", 5);
        int[] amounts = {0, 1, 9, 10, 99};
        for (int n : amounts) {
            FuneralDebts x = Made.several(1, 0);
            Check.parish(x, "more " + n + " p=0");
            e.due("more " + n, x.of(0, 10), 20 + n);
            Check.parish(x, "less " + n + " p=0");
            e.due("less " + n, x.of(0, 10), 20 - n);
            Check.parish(x, "yard " + n);
            e.due("yard " + n, x.of(0, 11), 20 - n);
        }
        FuneralDebts x = Made.several(1, 0);
        Check.parish(x, "more 07 p=0;yard 09");
        e.due("more 07 and yard 09", x.of(0, 11), 20 + 7 - 9);
    }

    // ---- E, T, F and TESTS

    private void joins() {
        e.says(Edges.TERMS, "E: T or T|E. T: F or F&T.");
        String[] so = {"a", "a|f", "f|a", "a|a", "a&a", "f|f|a", "a|f|f", "f|a|f", "a&a&a",
            "a|f&f", "f&f|a", "f&a|a", "a|a&f", "a|f&a|f", "f|a&a|f", "f&f|a&a", "a&a|f&f"};
        String[] not = {"f", "f|f", "a&f", "f&a", "f&f", "f|f|f", "a&a&f", "f&a&a", "a&f&a",
            "f|f&a", "a&f|f", "f&a|f", "f|a&f", "f&a|f&a", "a&f|f&f"};
        for (String join : so) {
            holds(join.replace("a", "p=1").replace("f", "p=0"), 1, 0, 0, true);
        }
        for (String join : not) {
            holds(join.replace("a", "p=1").replace("f", "p=0"), 1, 0, 0, false);
        }
        fault("more 1 |p=0", 7);
        fault("more 1 &p=0", 7);
        fault("more 1 p=0||p=0", 11);
        fault("more 1 p=0&&p=0", 11);
        fault("more 1 p=0&|p=0", 11);
        fault("more 1 p=0p=0", 10);
    }

    private void parts() {
        e.says(Edges.TERMS, "F: !F, (E), or a TEST:");
        String[] so = {"!f", "!!a", "(a)", "((a))", "(!f)", "!(f)", "!(a&f)", "(a|f)&a", "a&(f|a)",
            "!f&a", "!f|f", "f|!f", "a&!f", "!(!(a))", "(f|f)|a", "!(f|f)", "f|(f|(f|(f|a)))",
            "a&(a)", "(a)&(a)", "(a)&a", "f|(a)", "(f)|a", "a&(a&a)", "a&((a))", "a&!(f)",
            "a&(a|f)&a", "(f|a)&(a|f)", "f&f|(a)", "a&a&(a)", "f|a&(a)"};
        String[] not = {"!a", "!!f", "(f)", "!(a)", "!(a|f)", "(a|f)&f", "f&(a|a)", "!a|f", "!a&a",
            "a&!a", "!(!f)", "(a|a)&f", "!!!a", "f|(f|(f|(f|f)))", "a&(a&(a&(a&f)))",
            "a&(f)", "(a)&(f)", "(f)&(a)", "f|(f)", "a&(!a)", "f&(a)", "f&a|(f)", "a&(f)|f",
            "f|a&(f)", "a&!(a)", "(a|a)&(f|f)"};
        for (String part : so) {
            holds(part.replace("a", "p=1").replace("f", "p=0"), 1, 0, 0, true);
        }
        for (String part : not) {
            holds(part.replace("a", "p=1").replace("f", "p=0"), 1, 0, 0, false);
        }
        fault("more 1 ()", 8);
        fault("more 1 (p=0))", 12);
        fault("more 1 )", 7);
        fault("more 1 p=0)", 10);
        fault("more 1 p=0(p=0)", 10);
        fault("more 1 (p=0)(p=0)", 12);
        fault("more 1 (p=0)!p=0", 12);
        fault("more 1 !)", 8);
        fault("more 1 (p=0;more 1 p=0)", 11);
        fault("more 1 p!=0", 8);
    }

    private void tests() {
        e.says(Edges.TERMS, "a letter, < or = or >, a number (1 or 2 digits):");
        for (char letter : "pkvlyd".toCharArray()) {
            for (char sign : "<=>".toCharArray()) {
                good("more 1 " + letter + sign + "0");
                good("more 1 " + letter + sign + "99");
                fault("more 1 " + letter + sign + "100", 11);
                fault("more 1 " + letter + sign + "x", 9);
            }
            fault("more 1 " + letter + "0", 8);
            fault("more 1 " + letter + "<=0", 9);
            fault("more 1 " + letter + "==0", 9);
        }
        for (char letter : "aPKVLYDmx01=<|;".toCharArray()) {
            fault("more 1 " + letter + "=0", 7);
        }
        holds("l=10", 1, 0, 0, true);
        holds("l=1", 1, 0, 0, false);
        holds("l=01", 1, 0, 0, false);
        holds("v=04", 1, 0, 0, true);
    }

    /** Mourner 1 is a BEARER with v 4 and love 10, mourner 2 a WEEPER with v 9 and love 20. */
    private void facts() {
        e.says(Edges.TERMS, "of a MOURNER and a YARD p the number of the one, k its KIND, v its v,"
                + " l its LOVE, y the YARD, d DAY modulo 10.");
        around("p", 1, 1, 0, 0);
        around("k", 5, 1, 0, 0);
        around("v", 4, 1, 0, 0);
        around("l", 10, 1, 0, 0);
        around("y", 3, 1, 3, 0);
        around("d", 8, 1, 0, 8);
        around("p", 2, 2, 0, 0);
        around("k", 3, 2, 0, 0);
        around("v", 9, 2, 0, 0);
        around("l", 20, 2, 0, 0);
        around("y", 9, 1, 9, 0);
        around("d", 9, 1, 0, 9);
        around("d", 0, 1, 0, 10);
        around("d", 1, 1, 0, 11);
        around("d", 0, 1, 0, 20);
        holds("p=0", 0, 0, 0, true);
        holds("k=0", 0, 0, 0, true);
        holds("v=0", 0, 0, 0, true);
        holds("l=0", 0, 0, 0, true);
        holds("y=0", 0, 0, 0, true);
        holds("d=0", 0, 0, 0, true);
        // It is the yard of the RATE that counts, and not that at which the one stands.
        holds("y=9", 0, 0, 0, false);
        FuneralDebts x = Made.alone(0, 0, 20, 9, "yard 0;less 99 y=9");
        e.due("it stands at 9 and pays nothing", x.of(0, 6), 0);
        e.due("at 0 it would pay 100 of 200", x.of(0, 20), 100);
        e.due("at 9 it has 20", x.of(0, 29), 20);
        x.set(0, 0, 0);
        Check.parish(x, "more 5 l=0");
        e.due("love that was set counts", x.of(0, 10), 25);
    }

    private void around(String letter, int fact, int mourner, int yard, int day) {
        holds(letter + "=" + fact, mourner, yard, day, true);
        holds(letter + "<" + fact, mourner, yard, day, false);
        holds(letter + ">" + fact, mourner, yard, day, false);
        holds(letter + "<" + (fact + 1), mourner, yard, day, true);
        holds(letter + "=" + (fact + 1), mourner, yard, day, false);
        holds(letter + ">" + (fact + 1), mourner, yard, day, false);
        if (fact > 0) {
            holds(letter + ">" + (fact - 1), mourner, yard, day, true);
            holds(letter + "=" + (fact - 1), mourner, yard, day, false);
            holds(letter + "<" + (fact - 1), mourner, yard, day, false);
        }
    }

    private void within() {
        e.says(Edges.TERMS, "A ( or ! within 4 others is none.");
        good("more 1 ((((p=0))))");
        good("more 1 !!!!p=0");
        good("more 1 !(!(p=0))");
        good("more 1 (!(!p=0))");
        good("more 1 !!!!p=0&!!!!p=0|((((p=0))))");
        good("more 1 (((!p=0)&!p=0)&!p=0)");
        good("more 1 !(!!p=0)&(((!p=0)))");
        fault("more 1 (((((p=0)))))", 11);
        fault("more 1 !!!!!p=0", 11);
        fault("more 1 ((((!p=0))))", 11);
        fault("more 1 !!!!(p=0)", 11);
        fault("more 1 !(!(!p=0))", 11);
        fault("more 1 (((p=0&((p=0)))))", 15);
        fault("more 1 (((p=0|(!(p=0)))))", 15);
        fault("more 1 p=0|((((p=0))))&(((((p=0)))))", 27);
    }

    // ---- the fault

    private void faults() {
        e.says(Edges.TERMS, "The FAULT: the place of the first byte with which none begins so");
        for (char sign : "xMLYorp1 ;(!\u0000\u007f".toCharArray()) {
            fault(sign + "ore 1 p=0", 0);
        }
        faultsWithin("more", "mxre 1 p=0");
        faultsWithin("less", "lxss 1 p=0");
        faultsWithin("yard", "yxrd 1");
        fault("mess 1 p=0", 1);
        fault("lard 1", 1);
        fault("yess 1 p=0", 1);
        fault("morE 1 p=0", 3);
        fault("less 1 p=0;less 2 q=0;x", 18);
        fault("yard 1;more 1 p=1;yard 2x;x", 24);
        fault("yard 1x", 6);
    }

    /** A wrong sign at each place of a word. */
    private void faultsWithin(String word, String firstWrong) {
        fault(firstWrong, 1);
        for (int place = 0; place < word.length(); place++) {
            fault(word.substring(0, place) + "?" + word.substring(place + 1) + " 1 p=0", place);
        }
    }

    private void endsTooEarly() {
        e.says(Edges.TERMS, "(the end of THE TEXT, if it ends too early).");
        String more = "more 12 (!p=34&k<5)";
        for (int end = 0; end < more.length(); end++) {
            fault(more.substring(0, end), end);
        }
        good(more);
        String yard = "yard 1";
        for (int end = 0; end < yard.length(); end++) {
            fault(yard.substring(0, end), end);
            fault(more + ";" + yard.substring(0, end), more.length() + 1 + end);
        }
        for (int end = 0; end < "less 1 p=0".length(); end++) {
            fault("less 1 p=0".substring(0, end), end);
        }
        fault("more 1 p=0&", 11);
        fault("more 1 p=0|", 11);
        // With 100 bytes the end is behind the last that THE TEXT has room for.
        String hundred = "more 7 p=0" + "|p=0".repeat(22) + "|p";
        e.due("bytes", hundred.length(), 100);
        fault(hundred, 100);
        fault("more 7 (=0" + "|p=0".repeat(22), 8);
    }

    // ---- which holds

    private void newestHolds() {
        e.says(Edges.TERMS, "The newest PARISH holds (6 at most);");
        FuneralDebts x = Made.several(1, 0);
        for (int number = 0; number < 6; number++) {
            e.due("the next", Check.parish(x, "more " + (number + 1) + " p=0;yard " + number), number);
            e.due("its FALL", x.told(1), number);
            e.due("its clauses alone", x.of(0, 10), 20 + number + 1);
            e.due("how many", x.count(1), number + 1);
        }
        e.due("a seventh", Check.parish(x, "yard 9"), Edges.FULL);
        e.due("the sixth holds", x.told(1), 5);
    }

    private void fall() {
        e.says(Edges.TERMS, "FALL (2 without): the last n of yard.");
        e.due("without a parish", Made::empty, x -> x.told(1), 2);
        FuneralDebts x = Made.several(1, 0);
        String[] texts = {"more 1 p=0", "yard 0", "yard 99", "yard 7;yard 3", "yard 3;yard 7;less 1 p=0",
            "less 9 p=0"};
        int[] falls = {2, 0, 99, 3, 7, 2};
        int[] at1 = {19, 20, -79, 17, 12, 9};
        for (int i = 0; i < texts.length; i++) {
            Check.parish(x, texts[i]);
            e.due("by " + texts[i], x.told(1), falls[i]);
            e.due("rate by " + texts[i], x.of(0, 11), at1[i]);
        }
    }

    // ---- promise 9

    private void parish() {
        e.says(9, "THE TEXT, which is empty then (by a FAULT, too), is a PARISH, and holds:"
                + " its number.");
        FuneralDebts x = Made.empty();
        e.due("of no text", x.parish(), -10);
        e.due("the first", Check.parish(x, "yard 5"), 0);
        e.due("empty", x.count(5), 0);
        e.due("holds", x.told(1), 5);
        e.due("once read it is gone", x.parish(), -10);
        e.due("by a fault", Check.parish(x, "yard x"), -15);
        e.due("empty", x.count(5), 0);
        e.due("nothing of it is left", Check.parish(x, "yard 6"), 1);
        e.due("holds", x.told(1), 6);
        e.due("by a fault at the end", Check.parish(x, "yard"), -14);
        e.due("nothing of it is left", Check.parish(x, " 7"), -10);
        e.due("a fault is no parish", x.count(1), 2);
        e.due("the third", Check.parish(x, "yard 8"), 2);
    }

    private static FuneralDebts sixParishes() {
        FuneralDebts x = Made.several(1, 0);
        for (int n = 0; n < 6; n++) {
            Check.parish(x, "more " + n + " p=0;yard 4");
        }
        return x;
    }

    private void parishFull() {
        e.says(9, "FULL: there are 6 (THE TEXT stays);");
        for (String text : new String[] {"", "yard 9", "yard x", "?"}) {
            Edges.Making made = () -> {
                FuneralDebts x = sixParishes();
                Check.feed(x, text);
                return x;
            };
            e.still("by '" + text + "'", made, x -> x.parish(), Edges.FULL);
            e.due("'" + text + "' stays", made, x -> x.parish() + 100 * x.count(5),
                    Edges.FULL + 100 * text.length());
        }
        e.still("by 100 bytes", Made::full, x -> x.parish(), Edges.FULL);
        FuneralDebts x = sixParishes();
        Check.feed(x, "yard 9");
        x.parish();
        e.due("more comes behind it", x.feed('9'), 7);
        e.due("the sixth holds", x.told(1) + 100 * x.of(0, 10), 4 + 2500);
        // A parish that undo() takes away from holding is one of the six all the same.
        FuneralDebts y = Made.several(1, 0);
        y.image();
        for (int n = 0; n < 6; n++) {
            Check.parish(y, "yard 9");
        }
        y.undo();
        e.due("behind undo()", Check.parish(y, "yard 9"), Edges.FULL);
        e.due("none holds", y.told(1), 2);
    }

    private void parishFault() {
        e.says(9, "-10 less the FAULT (the one that held holds).");
        e.due("at 0", Made::empty, x -> Check.parish(x, "x"), -10);
        e.due("at 1", Made::empty, x -> Check.parish(x, "mx"), -11);
        e.due("at 99", Made::empty, x -> Check.parish(x, "more 7 p=0" + "|p=0".repeat(22) + "|x"),
                -109);
        e.due("at 100", Made::empty, x -> Check.parish(x, "more 7 p=0" + "|p=0".repeat(22) + "|p"),
                -110);
        FuneralDebts x = Made.several(1, 0);
        Check.parish(x, "more 1 p=0;yard 3");
        String[] texts = {"", "?", "yard 9;", "more 50 p=0;yard 9;x", "less 9 p=0;more 9 p=0|"};
        for (String text : texts) {
            e.due("a fault", Check.parish(x, text) <= -10 ? 1 : 0, 1);
            e.due("FALL stays by '" + text + "'", x.told(1), 3);
            e.due("clauses stay by '" + text + "'", x.of(0, 11), 20 + 1 - 3);
            e.due("how many", x.count(1), 1);
        }
        // Nothing of what was read ahead of a fault is part of what is read next.
        for (String text : new String[] {"yard 9;x", "more 50 p=0;x", "less 9 p=0|p=0;yard 7;",
            "more 9 !p=0&x", "yard 8;more 9 (p=0|p=0"}) {
            FuneralDebts z = Made.several(1, 0);
            Check.parish(z, text);
            Check.parish(z, "more 1 p=0");
            e.due("FALL behind '" + text + "'", z.told(1), 2);
            e.due("rate behind '" + text + "'", z.of(0, 11), 20 + 1 - 2);
            Check.parish(z, text);
            Check.parish(z, "less 1 p=1|p=2");
            e.due("again behind '" + text + "'", z.of(0, 11), 20 - 2);
        }
        e.due("none held", Made::empty, y -> Check.parish(y, "yard 9;x") + 100 * y.told(1), 200 - 17);
    }
}

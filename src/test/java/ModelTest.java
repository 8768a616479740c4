import java.util.Random;

/** Random runs of calls, each answer held against the model's. The seeds are always the same. */
public final class ModelTest {
    private static final int RUNS = 300, CALLS = 512;
    /** The tape that shares are told by. */
    private static final int SHARES = 1;
    private static final Check check = new Check();

    private final Random random;
    private final FuneralDebts real = new FuneralDebts();
    private final Model model = new Model();
    /** How many calls the real one has had: what those beyond CALLS answer is free. */
    private int calls;
    private String call;
    private long got;
    private long due;

    private ModelTest(long seed) {
        random = new Random(seed);
    }

    public static void main(String[] args) {
        int runs = args.length > 0 ? Integer.parseInt(args[0]) : RUNS;
        for (int run = 0; run < runs; run++) {
            check.about("run " + run);
            new ModelTest(run).run(run % 4);
        }
        check.finish();
    }

    /** Some runs begin with mourners, and some of these with more of a debt. */
    private void run(int sort) {
        for (int n = 0; n < sort * 2; n++) {
            tell("mourner");
        }
        while (calls < CALLS) {
            String name = NAMES[random.nextInt(NAMES.length)];
            if (name.equals("parish")) {
                tellText();
            }
            if (name.equals("judges")) {
                fillTape();
            }
            tell(name);
        }
    }

    private void tell(String name) {
        if (calls < CALLS) {
            calls++;
            ask(name);
            check.due(call, got, due);
        }
    }

    private void told(String what, long answer, long want) {
        calls++;
        check.due(what, answer, want);
    }

    private static final String[] NAMES = {
        "mourner", "of", "of", "of", "of", "set", "set", "away", "debt", "row", "row", "parish",
        "told", "told", "told", "pass", "on", "on", "kept", "kept", "see", "see", "can", "odds",
        "mean", "plan", "plan", "ends", "ends", "book", "book", "looked", "judge", "judges",
        "image", "undo", "act", "trace", "taken", "count", "tape", "item", "read", "shift", "feed",
    };

    private static final int[] STRANGE = {-1, -2, -3, 10, 21, 30, 60, 61, 100, 127, 128, 999, 1000,
        Integer.MIN_VALUE, Integer.MAX_VALUE, Integer.MAX_VALUE - 3};

    /** Mostly 0 .. most, now and then something else. */
    private int number(int most) {
        return random.nextInt(25) == 0 ? STRANGE[random.nextInt(STRANGE.length)]
                : random.nextInt(most + 1);
    }

    private int someone() {
        return random.nextInt(25) == 0 ? number(0) : random.nextInt(Math.max(1, model.count(0)));
    }

    private void say(String name, long... args) {
        StringBuilder b = new StringBuilder(name).append('(');
        for (int i = 0; i < args.length; i++) {
            b.append(i == 0 ? "" : ", ").append(args[i]);
        }
        call = b.append(')').toString();
    }

    private void ask(String name) {
        int a;
        int b;
        int c;
        int d;
        switch (name) {
            case "mourner":
                a = number(6);
                b = number(9);
                c = number(20);
                d = number(9);
                say(name, a, b, c, d);
                got = real.mourner(a, b, c, d);
                due = model.mourner(a, b, c, d);
                break;
            case "of":
                a = someone();
                b = number(30);
                say(name, a, b);
                got = real.of(a, b);
                due = model.of(a, b);
                break;
            case "set":
                a = someone();
                b = number(1);
                c = number(b == 0 ? 20 : 9);
                say(name, a, b, c);
                got = real.set(a, b, c);
                due = model.set(a, b, c);
                break;
            case "away":
                a = someone();
                boolean is = random.nextInt(3) == 0;
                say(name, a, is ? 1 : 0);
                got = real.away(a, is);
                due = model.away(a, is);
                break;
            case "debt":
                a = number(999);
                say(name, a);
                got = real.debt(a);
                due = model.debt(a);
                break;
            case "row":
                a = someone();
                b = number(3);
                c = number(9);
                say(name, a, b, c);
                got = real.row(a, b, c);
                due = model.row(a, b, c);
                break;
            default:
                askDays(name);
                break;
        }
    }

    private void askDays(String name) {
        int a;
        int b;
        switch (name) {
            case "feed":
                a = random.nextInt(4) == 0 ? number(127) : 'y';
                say(name, a);
                got = real.feed(a);
                due = model.feed(a);
                break;
            case "parish":
                say(name);
                got = real.parish();
                due = model.parish();
                break;
            case "told":
                a = number(7);
                say(name, a);
                got = real.told(a);
                due = model.told(a);
                break;
            case "pass":
                a = random.nextBoolean() ? random.nextInt(4) : number(20);
                say(name, a);
                got = real.pass(a);
                due = model.pass(a);
                break;
            case "on":
                a = number(20);
                b = someone() + (random.nextBoolean() ? 10 : 20);
                say(name, a, b);
                got = real.on(a, b);
                due = model.on(a, b);
                break;
            case "kept":
                a = someone();
                b = random.nextInt(4) == 0 ? number(999) : number(400);
                say(name, a, b);
                got = real.kept(a, b);
                due = model.kept(a, b);
                break;
            default:
                askSeen(name);
                break;
        }
    }

    private void askSeen(String name) {
        int a = someone();
        int b;
        switch (name) {
            case "see":
                a = random.nextInt(3) == 0 ? -1 : a;
                b = random.nextInt(3) == 0 ? number(400) : Math.max(0, model.of(a, 6));
                say(name, a, b);
                got = real.see(a, b);
                due = model.see(a, b);
                break;
            case "can":
                b = number(1);
                say(name, a, b);
                got = real.can(a, b);
                due = model.can(a, b);
                break;
            case "odds":
                b = number(1);
                say(name, a, b);
                got = real.odds(a, b);
                due = model.odds(a, b);
                break;
            case "mean":
                b = number(1);
                say(name, b);
                got = real.mean(b);
                due = model.mean(b);
                break;
            case "plan":
                b = random.nextInt(12) == 0 ? -1 : number(3);
                say(name, b, a);
                got = real.plan(b, a);
                due = model.plan(b, a);
                break;
            case "ends":
                b = number(1);
                say(name, b);
                got = real.ends(b);
                due = model.ends(b);
                break;
            case "book":
                a = random.nextInt(10) == 0 ? -1 : a;
                b = random.nextInt(4) == 0 ? number(9) : Math.max(0, model.of(a, 3));
                say(name, a, b);
                got = real.book(a, b);
                due = model.book(a, b);
                break;
            case "looked":
                say(name);
                got = real.looked();
                due = model.looked();
                break;
            default:
                askActs(name);
                break;
        }
    }

    private void askActs(String name) {
        int a = someone();
        int b;
        int c;
        switch (name) {
            case "image":
                say(name);
                got = real.image();
                due = model.image();
                break;
            case "undo":
                say(name);
                got = real.undo();
                due = model.undo();
                break;
            case "act":
                b = number(2);
                c = random.nextBoolean() ? random.nextInt() : number(9);
                say(name, a, b, c);
                got = real.act(a, b, c);
                due = model.act(a, b, c);
                break;
            case "trace":
                b = number(13);
                say(name, b);
                got = real.trace(b);
                due = model.trace(b);
                break;
            case "taken":
                b = number(6);
                say(name, a, b);
                got = real.taken(a, b);
                due = model.taken(a, b);
                break;
            case "count":
                b = number(6);
                say(name, b);
                got = real.count(b);
                due = model.count(b);
                break;
            default:
                askTapes(name);
                break;
        }
    }

    private void askTapes(String name) {
        int tape = random.nextInt(20) == 0 ? number(5) : random.nextInt(3);
        int a;
        int b;
        int c;
        switch (name) {
            case "judges":
                a = random.nextInt(3) == 0 ? number(3) : 1;
                say("judge", SHARES, a);
                got = real.judge(SHARES, a);
                due = model.judge(SHARES, a);
                break;
            case "judge":
                a = number(8);
                say(name, tape, a);
                got = real.judge(tape, a);
                due = model.judge(tape, a);
                break;
            case "tape":
                a = random.nextInt(8) == 0 ? -1 : number(4);
                b = number(9);
                say(name, tape, a, b);
                got = real.tape(tape, a, b);
                due = model.tape(tape, a, b);
                break;
            case "item":
                a = number(8);
                long v = random.nextBoolean() ? random.nextLong() : random.nextInt(400) - 200;
                say(name, tape, a, v);
                got = real.item(tape, a, v);
                due = model.item(tape, a, v);
                break;
            case "read":
                a = number(8);
                say(name, tape, a);
                got = real.read(tape, a);
                due = model.read(tape, a);
                break;
            default:
                a = number(5);
                b = number(5);
                c = number(5);
                int other = random.nextInt(3);
                say(name, tape, a, other, b, c);
                got = real.shift(tape, a, other, b, c);
                due = model.shift(tape, a, other, b, c);
                break;
        }
    }

    /** Mostly the shares as they are, from place 1 on. */
    private void fillTape() {
        int length = 2 + random.nextInt(6);
        if (calls + length > CALLS) {
            return;
        }
        told("tape", real.tape(SHARES, 1, length), model.tape(SHARES, 1, length));
        for (int i = 1; i < length; i++) {
            int share = model.of(i - 1, 6) + (random.nextInt(12) == 0 ? 1 : 0);
            told("item", real.item(SHARES, i, share), model.item(SHARES, i, share));
        }
    }

    // ---- texts

    /** Feeds a text, mostly a parish. */
    private void tellText() {
        if (model.count(5) > 0) {
            tell("parish");
        }
        StringBuilder text = new StringBuilder();
        int clauses = random.nextInt(8) == 0 ? 11 : 1 + random.nextInt(4);
        for (int c = 0; c < clauses; c++) {
            text.append(c == 0 ? "" : ";").append(clause(clauses > 4 ? 0 : 1 + random.nextInt(3)));
        }
        if (random.nextInt(3) == 0) {
            spoil(text);
        }
        for (int i = 0; i < text.length() && i < 103 && calls < CALLS; i++) {
            char sign = text.charAt(i);
            told("feed(" + (int) sign + ")", real.feed(sign), model.feed(sign));
        }
    }

    private String clause(int size) {
        int n = random.nextInt(random.nextBoolean() ? 10 : 30);
        if (random.nextInt(size == 0 ? 2 : 5) == 0) {
            return "yard " + (random.nextBoolean() ? random.nextInt(6) : n);
        }
        return (random.nextBoolean() ? "more " : "less ") + n + " " + either(size);
    }

    private String either(int size) {
        if (size <= 0 || random.nextInt(3) == 0) {
            return test();
        }
        switch (random.nextInt(5)) {
            case 0:
                return "(" + either(size - 1) + ")";
            case 1:
                return "!" + (random.nextBoolean() ? test() : "(" + either(size - 1) + ")");
            case 2:
                return either(size - 1) + "&" + either(size - 1);
            case 3:
                return either(size - 1) + "|" + either(size - 1);
            default:
                return "!!((" + either(size - 1) + "))";
        }
    }

    private String test() {
        int most = random.nextInt(4) == 0 ? 20 : 9;
        return "" + "pkvlyd".charAt(random.nextInt(6)) + "<=>".charAt(random.nextInt(3))
                + random.nextInt(most + 1);
    }

    private void spoil(StringBuilder text) {
        int at = random.nextInt(text.length());
        char sign = "moreslyad ;|&!()<=>pkvl0123".charAt(random.nextInt(27));
        switch (random.nextInt(4)) {
            case 0:
                text.setCharAt(at, sign);
                break;
            case 1:
                text.insert(at, sign);
                break;
            case 2:
                text.deleteCharAt(at);
                break;
            default:
                text.setLength(at);
                break;
        }
    }
}

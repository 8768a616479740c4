import java.util.ArrayList;
import java.util.List;

/**
 * All of an object that can be seen by asking, in parts: an object may be used for 512 calls, so
 * each part is for an object of its own, and leaves it some two hundred calls for its making.
 */
final class Sight {
    static final int PARTS = 3;
    private static final int MOURNERS = 6, TAPES = 6;
    private static final int[] PLACES = {0, 1, 2, 3, 4, 5, 6, 7, 8, 9, 58, 59, 60};

    private final FuneralDebts x;
    private final List<String> seen = new ArrayList<>();

    private Sight(FuneralDebts x) {
        this.x = x;
    }

    static List<String> of(FuneralDebts x, int part) {
        Sight sight = new Sight(x);
        if (part == 0) {
            sight.now();
        } else if (part == 1) {
            sight.tapes();
        } else {
            sight.behind();
        }
        return sight.seen;
    }

    private void add(String what, long answer) {
        seen.add(what + " " + answer);
    }

    private void now() {
        counts();
        for (int what = 0; what <= 7; what++) {
            add("told " + what, x.told(what));
        }
        for (int m = 0; m < MOURNERS; m++) {
            mourner(m, 7);
            add("on yard of " + m, x.on(2, 10 + m));
            add("on paid of " + m, x.on(2, 20 + m));
            add("kept " + m, x.kept(m, 50));
            add("can of " + m, x.can(m, 0));
            add("least can of " + m, x.can(m, 1));
            add("odds above of " + m, x.odds(m, 0));
            add("odds below of " + m, x.odds(m, 1));
            add("worth of 3 to " + m, x.of(m, 23));
        }
        for (int what = 0; what <= 1; what++) {
            add("mean " + what, x.mean(what));
            add("ends " + what, x.ends(what));
        }
        add("looked", x.looked());
        for (int i = 0; i <= 20; i++) {
            add("trace " + i, x.trace(i));
        }
    }

    private void counts() {
        for (int what = 0; what <= 6; what++) {
            add("count " + what, x.count(what));
        }
    }

    /** What is a mourner's own, and its rates at the yards by which its row can be told. */
    private void mourner(int m, int most) {
        for (int what = 0; what <= most; what++) {
            add("of " + m + " " + what, x.of(m, what));
        }
        for (int yard = 0; yard <= 5; yard++) {
            add("rate of " + m + " at " + yard, x.of(m, 10 + yard));
        }
    }

    private void tapes() {
        for (int tape = 0; tape < TAPES; tape++) {
            for (int place : PLACES) {
                add("tape " + tape + " at " + place, x.read(tape, place));
            }
            add("judged by " + tape, x.judge(tape, 0));
        }
    }

    /** What can be seen only by going on: THE TEXT as it is read, and THE IMAGE. */
    private void behind() {
        add("parish", x.parish());
        counts();
        add("fall", x.told(1));
        for (int m = 0; m < MOURNERS; m++) {
            mourner(m, 5);
        }
        add("undo", x.undo());
        counts();
        for (int what = 0; what <= 7; what++) {
            add("undone told " + what, x.told(what));
        }
        for (int m = 0; m < MOURNERS; m++) {
            mourner(m, 5);
        }
        for (int what = 0; what <= 1; what++) {
            add("undone ends " + what, x.ends(what));
        }
        add("undone looked", x.looked());
    }
}

import java.io.IOException;
import java.util.List;

/** What the tests of the document's edges share. */
final class Edges {
    static final int NONE = -1, BAD = -2, STATE = -3, FULL = -4, NEVER = -5;
    static final int NO_SUCH = -10001, NOTHING = -11, CAST = -12, PLACE = -13, SIZE = -14;
    static final long NO = Long.MIN_VALUE;
    static final int TERMS = Doc.TERMS;

    /** A way to make an object, always the same. */
    interface Making {
        FuneralDebts make();
    }

    /** A call on an object. */
    interface Call {
        long on(FuneralDebts x);
    }

    private final Check check = new Check();
    private final Doc doc;

    Edges() throws IOException {
        doc = new Doc();
    }

    /** All that follows is about a sentence of a promise, or of the Terms. */
    void says(int part, String sentence) {
        check.about((part == TERMS ? "Terms" : "promise " + part) + ": \"" + sentence + "\"");
        check.due("the document says so", doc.quote(part, sentence) ? 1 : 0, 1);
    }

    void due(String call, long got, long want) {
        check.due(call, got, want);
    }

    /** A call on a new object, and its answer. */
    void due(String call, Making making, Call asked, long want) {
        check.due(call, asked.on(making.make()), want);
    }

    /** A call answers so, and changes nothing that can be seen. */
    void still(String call, Making making, Call asked, long want) {
        for (int part = 0; part < Sight.PARTS; part++) {
            FuneralDebts x = making.make();
            check.due(call, asked.on(x), want);
            List<String> as = Sight.of(making.make(), part);
            List<String> is = Sight.of(x, part);
            for (int i = 0; i < as.size(); i++) {
                boolean same = as.get(i).equals(is.get(i));
                check.due(call + " (behind it: " + is.get(i) + ", without it: " + as.get(i) + ")",
                        same ? 1 : 0, 1);
            }
        }
    }

    /** Numbers below 0 and above the most: the nearest, and the farthest. */
    static int[] beyond(int most) {
        return new int[] {-1, most + 1, Integer.MIN_VALUE, Integer.MAX_VALUE};
    }

    /** The same without -1, where that has a meaning of its own. */
    static int[] beyondButOne(int most) {
        return new int[] {-2, most + 1, Integer.MIN_VALUE, Integer.MAX_VALUE};
    }

    /** Every sentence has to have been quoted; ends the program. */
    void finish() {
        check.about("no test quotes");
        for (String words : doc.left()) {
            check.due(words, 0, 1);
        }
        check.finish();
    }
}

/** Counts and prints the answers that are not due. */
final class Check {
    private String about = "";
    private int asked;
    private int wrong;

    void about(String what) {
        about = what;
    }

    void due(String call, long got, long want) {
        asked++;
        if (got != want) {
            wrong++;
            System.out.println(about + ": " + call + " answered " + got + ", due is " + want);
        }
    }

    /** Ends the program, with exit code 1 if an answer was wrong. */
    void finish() {
        System.out.println("  " + asked + " answers, " + wrong + " not as due");
        if (wrong != 0 || asked == 0) {
            System.exit(1);
        }
    }

    /** Feeds a text, sign by sign. */
    static void feed(FuneralDebts x, String text) {
        for (char sign : text.toCharArray()) {
            x.feed(sign);
        }
    }

    /** Feeds a text and reads it as a parish. */
    static int parish(FuneralDebts x, String text) {
        feed(x, text);
        return x.parish();
    }
}

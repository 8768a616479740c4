import java.io.IOException;
import java.nio.file.Files;
import java.nio.file.Path;
import java.util.ArrayList;
import java.util.Arrays;
import java.util.List;
import java.util.regex.Matcher;
import java.util.regex.Pattern;

/**
 * The document's own words. Each test quotes the sentence that it holds, so that a sentence which
 * no test holds, and a test whose sentence the document no longer says, are both found.
 */
final class Doc {
    static final int TERMS = 0, PROMISES = 32;
    private static final Path FILE = Path.of("../shared/DOC.md");

    /** The Terms at 0, and each promise at its number, with single blanks and without markup. */
    private final String[] parts = new String[PROMISES + 1];
    private final boolean[][] quoted = new boolean[PROMISES + 1][];

    Doc() throws IOException {
        String[] sections = Files.readString(FILE).split("(?m)^## ");
        for (String section : sections) {
            Matcher promise = Pattern.compile("^Promise (\\d+):[^\n]*\n\\s*`[^`]*`: (.*)$",
                    Pattern.DOTALL).matcher(section);
            if (section.startsWith("Terms")) {
                keep(TERMS, section.substring("Terms".length()));
            } else if (promise.find()) {
                keep(Integer.parseInt(promise.group(1)), promise.group(2));
            }
        }
        for (int part = 0; part < parts.length; part++) {
            if (parts[part] == null) {
                throw new IOException("the document has no part " + part);
            }
        }
    }

    private void keep(int part, String text) {
        parts[part] = text.replaceAll("(?m)^Ahead of the calls .*$", " ")
                .replaceAll("(?m)^==== \\d ", " ").replaceAll("```(text)?", " ")
                .replace("`", "").replaceAll("\\s+", " ").trim();
        quoted[part] = new boolean[parts[part].length()];
    }

    /** Ticks off a sentence: false, if the document doesn't say it there. */
    boolean quote(int part, String sentence) {
        boolean said = false;
        int from = parts[part].indexOf(sentence);
        while (from >= 0) {
            boolean fresh = !quoted[part][from];
            Arrays.fill(quoted[part], from, from + sentence.length(), true);
            said = true;
            // The same words may stand there twice: each quote ticks off the first one left.
            from = fresh ? -1 : parts[part].indexOf(sentence, from + 1);
        }
        return said;
    }

    /** What no test quoted. */
    List<String> left() {
        List<String> left = new ArrayList<>();
        for (int part = 0; part < parts.length; part++) {
            StringBuilder rest = new StringBuilder();
            for (int i = 0; i < parts[part].length(); i++) {
                rest.append(quoted[part][i] ? '\n' : parts[part].charAt(i));
            }
            for (String words : rest.toString().split("\n+")) {
                if (Pattern.compile("\\w").matcher(words).find()) {
                    left.add((part == TERMS ? "Terms" : "promise " + part) + ": " + words.trim());
                }
            }
        }
        return left;
    }
}

import java.io.IOException;
import java.lang.reflect.Method;
import java.lang.reflect.Modifier;
import java.nio.file.DirectoryStream;
import java.nio.file.Files;
import java.nio.file.Path;
import java.util.Set;
import java.util.TreeSet;
import java.util.regex.Matcher;
import java.util.regex.Pattern;

/** README.md: each call of its example answers as it says, and no call, test or file is left out. */
public final class ReadmeTest {
    private static final Check check = new Check();
    private static final Path TESTS = Path.of("src/test/java");
    /** The answer stands at the end of what is said of a call. */
    private static final Pattern ASKED =
            Pattern.compile("x\\.(\\w+)\\(([-\\d, ]*)\\); +// .*: (-?\\d+)");
    private static final Pattern FED =
            Pattern.compile("for \\(char sign : \"([^\"]*)\"\\.toCharArray\\(\\)\\) \\{");

    public static void main(String[] args) throws IOException, ReflectiveOperationException {
        check.about("README.md");
        String page = Files.readString(Path.of("README.md"));
        example(page);
        calls(page);
        tests(page);
        commands(page);
        check.finish();
    }

    private static void isSo(String what, boolean so) {
        check.due(what, so ? 1 : 0, 1);
    }

    // ---- the example

    private static void example(String page) throws ReflectiveOperationException {
        Matcher block = Pattern.compile("```java\n(.*?)```", Pattern.DOTALL).matcher(page);
        isSo("has an example", block.find());
        FuneralDebts x = new FuneralDebts();
        int answers = 0;
        for (String line : block.group(1).split("\n")) {
            Matcher asked = ASKED.matcher(line);
            Matcher fed = FED.matcher(line);
            if (asked.matches()) {
                answers++;
                check.due(line, ask(x, asked.group(1), asked.group(2)),
                        Long.parseLong(asked.group(3)));
            } else if (fed.matches()) {
                Check.feed(x, fed.group(1));
            } else {
                isSo("a line as the example's: " + line, isFrame(line));
            }
        }
        isSo("the example has answers", answers > 0);
        isSo("it is the only example", !block.find());
    }

    private static boolean isFrame(String line) {
        return line.equals("FuneralDebts x = new FuneralDebts();")
                || line.equals("    x.feed(sign);") || line.equals("}");
    }

    private static long ask(FuneralDebts x, String name, String numbers)
            throws ReflectiveOperationException {
        String[] parts = numbers.isEmpty() ? new String[0] : numbers.split(", ");
        Class<?>[] sorts = new Class<?>[parts.length];
        Object[] args = new Object[parts.length];
        for (int i = 0; i < parts.length; i++) {
            sorts[i] = int.class;
            args[i] = Integer.parseInt(parts[i]);
        }
        return ((Number) FuneralDebts.class.getMethod(name, sorts).invoke(x, args)).longValue();
    }

    // ---- what is named

    private static void calls(String page) {
        for (Method m : FuneralDebts.class.getDeclaredMethods()) {
            if (Modifier.isPublic(m.getModifiers())) {
                isSo("names " + m.getName(), page.contains("`" + m.getName() + "`"));
            }
        }
    }

    private static void tests(String page) throws IOException {
        Set<String> there = tests();
        Set<String> named = new TreeSet<>();
        Matcher row = Pattern.compile("(?m)^\\| `(\\w+Test)` \\|").matcher(page);
        while (row.find()) {
            named.add(row.group(1));
        }
        isSo("names " + there + " and not " + named, there.equals(named));
    }

    private static Set<String> tests() throws IOException {
        Set<String> names = new TreeSet<>();
        try (DirectoryStream<Path> files = Files.newDirectoryStream(TESTS, "*Test.java")) {
            for (Path file : files) {
                names.add(file.getFileName().toString().replace(".java", ""));
            }
        }
        return names;
    }

    /** A command that runs one test names one that is there, at the place where .ci/run leaves it. */
    private static void commands(String page) throws IOException {
        isSo("names .ci/run", page.contains("```sh\n.ci/run\n```"));
        isSo(".ci/run is executable", Files.isExecutable(Path.of(".ci/run")));
        Matcher one = Pattern.compile("(?m)^java .*-cp build/own/(\\w+) (\\w+)( \\d+)?$")
                .matcher(page);
        int commands = 0;
        while (one.find()) {
            commands++;
            isSo(one.group() + ": the test is there", tests().contains(one.group(2)));
            isSo(one.group() + ": by its own name", one.group(1).equals(one.group(2)));
        }
        isSo("names commands", commands > 0);
    }
}

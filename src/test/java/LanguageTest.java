import java.io.IOException;
import java.lang.reflect.Field;
import java.lang.reflect.Method;
import java.lang.reflect.Modifier;
import java.nio.file.Files;
import java.nio.file.Path;
import java.util.List;
import java.util.Set;
import java.util.TreeSet;
import java.util.regex.Matcher;
import java.util.regex.Pattern;

/** The rules of LANGUAGE.md that can be told from the class and from its text. */
public final class LanguageTest {
    private static final Check check = new Check();
    private static final Path FILE = Path.of("src/main/java/FuneralDebts.java");

    public static void main(String[] args) throws IOException {
        check.about("LANGUAGE.md");
        String text = Files.readString(FILE);
        face();
        names();
        fields();
        signs(text);
        headings(text);
        words(withoutComments(text));
        lengths(withoutComments(text));
        check.finish();
    }

    private static void isSo(String what, boolean so) {
        check.due(what, so ? 1 : 0, 1);
    }

    private static List<Class<?>> inside() {
        return List.of(FuneralDebts.class.getDeclaredClasses());
    }

    private static void face() {
        Set<String> shown = new TreeSet<>();
        for (Method m : FuneralDebts.class.getDeclaredMethods()) {
            if (!Modifier.isPrivate(m.getModifiers()) && !m.isSynthetic()) {
                StringBuilder b = new StringBuilder(m.getReturnType() + " " + m.getName());
                for (Class<?> p : m.getParameterTypes()) {
                    b.append(' ').append(p);
                }
                isSo(b + " is public", Modifier.isPublic(m.getModifiers()));
                shown.add(b.toString());
            }
        }
        Set<String> due = new TreeSet<>(List.of(
                "int mourner int int int int", "int of int int", "int set int int int",
                "int away int boolean", "int debt int", "int row int int int", "int feed int",
                "int parish", "int told int", "int pass int", "int on int int", "int kept int int",
                "int see int int", "int can int int", "long odds int int", "long mean int",
                "int plan int int", "int ends int", "int book int int", "int looked",
                "int judge int int", "int image", "int undo", "int act int int int",
                "int trace int", "int taken int int", "int count int", "int tape int int int",
                "int item int int long", "long read int int", "int shift int int int int int"));
        isSo("the face " + shown, shown.equals(due));
        Class<?> made = FuneralDebts.class;
        isSo("final", Modifier.isFinal(made.getModifiers()));
        isSo("one constructor", made.getDeclaredConstructors().length == 1);
        for (Class<?> c : inside()) {
            int m = c.getModifiers();
            isSo(c + " is static", Modifier.isStatic(m));
            isSo(c + " is not shown", !Modifier.isPublic(m) && !Modifier.isProtected(m));
        }
        isSo("some twelve classes", inside().size() < 12);
    }

    private static void names() {
        Set<String> shown = new TreeSet<>();
        for (Method m : FuneralDebts.class.getDeclaredMethods()) {
            if (Modifier.isPublic(m.getModifiers())) {
                shown.add(m.getName());
            } else {
                isSo(m + " bears a name of its own", !shown.contains(m.getName()));
            }
        }
        for (Class<?> c : inside()) {
            for (Method m : c.getDeclaredMethods()) {
                isSo(m + " bears a name of its own", !shown.contains(m.getName()));
                isSo(m + " takes seven at most", m.getParameterCount() <= 7);
            }
        }
    }

    private static void fields() {
        Set<String> constants = Set.of("NONE", "BAD", "STATE", "FULL", "NO");
        for (Field f : FuneralDebts.class.getDeclaredFields()) {
            isSo(f + " is of the face or private",
                    constants.contains(f.getName()) || Modifier.isPrivate(f.getModifiers()));
        }
        List<Class<?>> all = new java.util.ArrayList<>(inside());
        all.add(FuneralDebts.class);
        for (Class<?> c : all) {
            int own = 0;
            for (Field f : c.getDeclaredFields()) {
                boolean still = Modifier.isStatic(f.getModifiers());
                isSo(f + " does not change", !still || Modifier.isFinal(f.getModifiers()));
                own += still ? 0 : 1;
            }
            isSo(c + " has some twenty fields", own <= 20);
        }
    }

    private static void signs(String text) {
        for (int i = 0; i < text.length(); i++) {
            if (text.charAt(i) > 126) {
                isSo("sign " + i + " is one of 1 to 127", false);
            }
        }
    }

    /** The document says which comment stands ahead of which calls. */
    private static void headings(String text) {
        String[][] groups = {
            {"mourners, parishes", "mourner", "of", "set", "away", "debt", "row", "feed", "parish",
                "told"},
            {"days", "pass", "on", "kept"},
            {"seen, odds", "see", "can", "odds", "mean"},
            {"plans, books", "plan", "ends", "book", "looked"},
            {"judging, the image, acts, tapes", "judge", "image", "undo", "act", "trace", "taken",
                "count", "tape", "item", "read", "shift"},
        };
        int from = 0;
        for (String[] group : groups) {
            int heading = text.indexOf("// ---- " + group[0] + "\n");
            isSo("---- " + group[0] + " stands behind the calls before", heading > from);
            from = heading;
            for (int i = 1; i < group.length; i++) {
                Matcher call = Pattern.compile("public (int|long) " + group[i] + "\\(").matcher(text);
                isSo(group[i] + " stands behind ---- " + group[0], call.find(from));
                from = call.start();
            }
        }
    }

    private static String withoutComments(String text) {
        return Pattern.compile("/\\*.*?\\*/|//[^\n]*", Pattern.DOTALL).matcher(text)
                .replaceAll("");
    }

    private static void words(String code) {
        String[] none = {"\\bthrows?\\b", "\\btry\\b", "\\bcatch\\b", "\\bfinally\\b",
            "\\bsynchronized\\b", "\\bassert\\b", "\\bimport\\b", "\\bpackage\\b", "->", "::",
            "\\bwhile\\b.*\\btrue\\b", "for \\(;;", "\\bObject\\b", "Exact\\b", "\\bvar\\b",
            "\\bequals\\b", "\\bhashCode\\b", "\\btoString\\b", "\"[^\"]*\" \\+", "\\+ \"",
            "static \\{", "System\\.(?!arraycopy)", "\\bvolatile\\b", "\\bnative\\b"};
        for (String word : none) {
            Matcher m = Pattern.compile(word).matcher(code);
            isSo("no " + word, !m.find());
        }
        // A constructor hands out nothing of the object that it makes: to its own rows neither.
        isSo("no this handed on", !Pattern.compile("[(,]\\s*this\\s*[,)]").matcher(code).find());
        Matcher given = Pattern.compile("\\bnew [A-Z]\\w*\\(([^)]*)\\)").matcher(code);
        while (given.find()) {
            isSo("made of constants: " + given.group(), given.group(1).matches("[A-Z_]*"));
        }
        // Whatever a call needs is made with the object.
        Matcher made = Pattern.compile("\n([^\n]*)\\bnew \\w").matcher(code);
        while (made.find()) {
            String line = made.group(1);
            boolean field = line.contains("final ") || line.contains("Parish into");
            boolean loop = line.contains("[i] = ");
            isSo("made with the object:" + line, field || loop);
        }
    }

    /** A method's first line ends with {, its last one is } by itself, as far in. */
    private static void lengths(String code) {
        String[] lines = code.split("\n");
        for (int first = 0; first < lines.length; first++) {
            Matcher m = Pattern.compile("^((?:    ){1,2})\\S[^=]*\\) \\{$").matcher(lines[first]);
            if (m.find()) {
                int last = first;
                while (!lines[last].equals(m.group(1) + "}")) {
                    last++;
                }
                isSo("sixty lines:" + lines[first], last - first < 60);
            }
            isSo("width of line " + first, lines[first].length() <= 110);
        }
    }
}

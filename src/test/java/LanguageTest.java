import java.nio.file.Files;
import java.nio.file.Path;
import java.util.regex.Matcher;
import java.util.regex.Pattern;

/** What LANGUAGE.md forbids and a look at the text of src/main/java/SeriesBench.java can find. */
public final class LanguageTest {
    private static final Check CHECK = new Check("LanguageTest");

    private static final String[] FORBIDDEN = {
        "->", "::", "\\bsynchronized\\b", "\\bassert\\b", "\\bfinally\\b", "\\btry\\b", "\\bcatch\\b",
        "\\bstatic\\s*\\{", "\\bpackage\\b", "\\bprotected\\b", "\\bfloat\\b", "\\bdouble\\b", "\\bnull\\b",
        "\\bString\\b", "\\bThread\\b", "\\bSystem\\.(?!arraycopy\\b)", "\\bMath\\.(?!min\\b|max\\b)",
        "\\bArrays\\.(?!fill\\b)", "\\bInteger\\b", "\\bLong\\b", "\\bObject\\b", "\\bjava\\.(?!util\\.Arrays;)",
        "\\[\\]\\s*\\[\\]\\s*\\[\\]", "while\\s*\\(true\\)", "for\\s*\\(\\s*;\\s*;"};

    public static void main(String[] args) throws Exception {
        String source = Files.readString(Path.of("src/main/java/SeriesBench.java"));
        CHECK.due("signs 1 to 127 alone", true, () -> source.chars().allMatch(c -> c > 0 && c < 128));
        String code = source.replaceAll("//[^\n]*", "").replaceAll("(?s)/\\*.*?\\*/", "")
                .replaceAll("\"[^\"\n]*\"", "\"\"").replaceAll("'[^']*'", "0");
        for (String pattern : FORBIDDEN) {
            Matcher matcher = Pattern.compile(pattern).matcher(code);
            CHECK.due("the program holds " + pattern, false, () -> matcher.find());
        }
        thrown(code);
        methods(code);
        CHECK.end();
    }

    private static void thrown(String code) {
        Matcher matcher = Pattern.compile("\\bthrow\\b([^;]*);").matcher(code);
        while (matcher.find()) {
            String what = matcher.group(1).trim();
            CHECK.due("throw " + what, true, () -> what.matches(
                    "new (IllegalStateException|IllegalArgumentException|IndexOutOfBoundsException)\\(\"\"\\)"));
        }
    }

    /** Methods are short, and all rows are made with the object: only constructors and automata() make something. */
    private static void methods(String code) {
        String name = "";
        int lines = -1;
        int made = 0;
        int methods = 0;
        for (String line : code.split("\n")) {
            if (lines < 0 && line.matches(" {4}( {4})?\\S[^;=]*\\(.*")) {
                name = line.trim();
                lines = 0;
                made = 0;
                methods++;
            }
            lines += lines < 0 ? 0 : 1;
            made += line.contains("new ") && !line.contains("throw new ") ? 1 : 0;
            if (line.matches(" {4}( {4})?\\}")) {
                check(name, lines, made);
                lines = -1;
            }
        }
        int found = methods;
        CHECK.due("the methods are found", true, () -> found > 80);
    }

    private static void check(String name, int lines, int made) {
        boolean makes = name.startsWith("public SeriesBench()") || name.startsWith("Automaton(")
                || name.startsWith("private static Automaton[] automata(");
        CHECK.due(name + " has at most sixty lines", true, () -> lines <= 60);
        CHECK.due(name + " makes nothing", true, () -> makes || made == 0);
    }
}

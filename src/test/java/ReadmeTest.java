import java.io.ByteArrayOutputStream;
import java.io.PrintStream;
import java.net.URL;
import java.net.URLClassLoader;
import java.nio.file.Files;
import java.nio.file.Path;
import java.util.ArrayList;
import java.util.List;
import java.util.TreeSet;
import java.util.regex.Matcher;
import java.util.regex.Pattern;
import java.util.stream.Stream;
import javax.tools.ToolProvider;

/** README.md: its example prints what its comments say, and it names each call of the document and each test. */
public final class ReadmeTest {
    private static final Check CHECK = new Check("ReadmeTest");
    private static final Pattern EXAMPLE = Pattern.compile("```java\\n(.*?)```", Pattern.DOTALL);
    private static final Pattern PRINTED = Pattern.compile("println\\((.*)\\); *// (-?\\w+)");
    private static final Pattern CALL = Pattern.compile("public \\w+ (\\w+)\\((.*?)\\).*;");

    public static void main(String[] args) throws Exception {
        String page = Files.readString(Path.of("README.md"));
        Matcher matcher = EXAMPLE.matcher(page);
        CHECK.due("the page has an example", true, () -> matcher.find());
        example(matcher.group(1));
        calls(page);
        tests(page);
        CHECK.end();
    }

    private static void example(String program) throws Exception {
        List<String> calls = new ArrayList<>();
        List<String> due = new ArrayList<>();
        Matcher matcher = PRINTED.matcher(program);
        while (matcher.find()) {
            calls.add(matcher.group(1));
            due.add(matcher.group(2));
        }
        CHECK.due("answers without a comment", due.size(), () -> program.split("println\\(").length - 1);
        List<String> printed = printed(program);
        for (int k = 0; k < due.size(); k++) {
            int at = k;
            CHECK.due("the example's " + calls.get(k), due.get(k),
                    () -> at < printed.size() ? printed.get(at) : "nothing");
        }
        CHECK.due("lines printed", due.size(), () -> printed.size());
    }

    /** The lines that the program prints, compiled against the class; the trace of an exception is printed at once. */
    private static List<String> printed(String program) throws Exception {
        Path folder = Files.createDirectories(Path.of("build/readme"));
        Path source = Files.writeString(folder.resolve("Example.java"), program);
        String classes = System.getProperty("java.class.path");
        int faults = ToolProvider.getSystemJavaCompiler().run(null, null, null, "-proc:none", "-cp", classes, "-d",
                folder.toString(), source.toString());
        CHECK.due("the example compiles", 0, () -> faults);
        PrintStream kept = System.out;
        ByteArrayOutputStream bytes = new ByteArrayOutputStream();
        try (URLClassLoader loader = new URLClassLoader(new URL[] {folder.toUri().toURL()})) {
            System.setOut(new PrintStream(bytes, true));
            loader.loadClass("Example").getMethod("main", String[].class).invoke(null, (Object) new String[0]);
        } catch (ReflectiveOperationException e) {
            e.printStackTrace();
        } finally {
            System.setOut(kept);
        }
        return bytes.toString().lines().toList();
    }

    /** Each call of ../shared/DOC.md stands in the page's table, with the names of its arguments. */
    private static void calls(String page) throws Exception {
        String document = Files.readString(Path.of("../shared/DOC.md"));
        int found = 0;
        Matcher matcher = CALL.matcher(document.substring(document.indexOf("```java"), document.indexOf("## Terms")));
        while (matcher.find()) {
            String call = matcher.group(1) + "(" + matcher.group(2).replaceAll("\\w+ (\\w+)", "$1") + ")";
            CHECK.due("the page tells of " + call, true, () -> page.contains("| `" + call + "` |"));
            found++;
        }
        int calls = found;
        CHECK.due("the document's calls are found", 26, () -> calls);
    }

    private static void tests(String page) throws Exception {
        TreeSet<String> there = new TreeSet<>();
        try (Stream<Path> files = Files.list(Path.of("src/test/java"))) {
            files.map(file -> file.getFileName().toString().replace(".java", "")).filter(name -> name.endsWith("Test"))
                    .forEach(there::add);
        }
        TreeSet<String> told = new TreeSet<>();
        Matcher matcher = Pattern.compile("`([A-Z]\\w*Test)`").matcher(page);
        while (matcher.find()) {
            told.add(matcher.group(1));
        }
        CHECK.due("the tests that the page tells of", there, () -> told);
    }
}

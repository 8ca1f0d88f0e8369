import java.lang.reflect.Method;
import java.nio.file.Files;
import java.nio.file.Path;
import java.util.ArrayList;
import java.util.List;
import java.util.Set;
import java.util.TreeMap;
import java.util.stream.Stream;

/**
 * Compares the tests of single sentences with ../shared/DOC.md: each test's sentence stands in the document, each
 * sentence of "Promise 1" to "Promise 27" has a test, and so has each sentence of "Terms" that names an edge; there are
 * no headings but those known.
 */
public final class DocumentTest {
    private static final Check CHECK = new Check("DocumentTest");

    /** The pieces of "Terms" that say what comes next or why, and name nothing that a test could ask for. */
    private static final String[] WITHOUT_EDGE = {"Automata.", "The series of an automaton is the assignment",
        "Operations, for automata x and y", "it comes by the final numbers", "Minimization.",
        "The forward reduction of an automaton:", "Expression text.", "The automata of letters and numbers:", "Undo.",
        "Exceptions.", "There is no such thing.", "Ahead of the calls", "----"};

    /** The face is looked at by FaceTest; what is not promised is free. */
    private static final Set<String> OTHERS = Set.of("SeriesBench", "The public face", "Not promised");

    public static void main(String[] args) throws Exception {
        TreeMap<String, String> sections = sections();
        TreeMap<String, List<String>> quotes = new TreeMap<>();
        for (Method test : tests()) {
            Sentence sentence = test.getAnnotation(Sentence.class);
            String section = sections.getOrDefault(sentence.of(), "");
            CHECK.due(test.getName() + ": its sentence stands in the document", true,
                    () -> section.contains(sentence.says()));
            String prefix = sentence.of().startsWith("Promise") ? sentence.of().toLowerCase().replace(" ", "") + "_"
                    : sentence.of().equals("Terms") ? "terms_" : "use_";
            CHECK.due(test.getName() + " begins with " + prefix, true, () -> test.getName().startsWith(prefix));
            quotes.computeIfAbsent(sentence.of(), of -> new ArrayList<>()).add(sentence.says());
        }
        int promises = 0;
        for (String heading : sections.keySet()) {
            List<String> says = quotes.getOrDefault(heading, List.of());
            if (heading.startsWith("Promise ")) {
                promises++;
                promise(heading, sections.get(heading), says);
            } else if (heading.equals("Terms")) {
                terms(sections.get(heading), says);
            } else if (heading.equals("What it is")) {
                String calls = "An object is used for at most 512 calls after it has been made;";
                CHECK.due(heading + " has a test of: " + calls, true, () -> covered(calls, says));
            } else {
                CHECK.due("\"" + heading + "\" asks for no test of sentences", true, () -> OTHERS.contains(heading));
            }
        }
        int found = promises;
        CHECK.due("the promises are found", 27, () -> found);
        CHECK.end();
    }

    private static List<Method> tests() throws Exception {
        List<Method> found = new ArrayList<>();
        try (Stream<Path> files = Files.list(Path.of("src/test/java"))) {
            for (Path file : (Iterable<Path>) files.sorted()::iterator) {
                String name = file.getFileName().toString();
                if (name.endsWith("EdgesTest.java")) {
                    found.addAll(Edges.tests(Class.forName(name.substring(0, name.length() - ".java".length()))));
                }
            }
        }
        CHECK.due("tests of sentences are found", true, () -> found.size() > 200);
        return found;
    }

    /** The text below each heading, its lines and bullets joined by single spaces; the promises' titles are left out. */
    private static TreeMap<String, String> sections() throws Exception {
        TreeMap<String, String> sections = new TreeMap<>();
        String heading = "";
        for (String line : Files.readAllLines(Path.of("../shared/DOC.md"))) {
            if (line.startsWith("#")) {
                heading = line.replaceFirst("#+ *", "").replaceFirst("(Promise \\d+):.*", "$1");
                sections.put(heading, "");
            } else if (!line.isBlank() && !line.startsWith("```")) {
                String text = line.replaceFirst("^- ", "").replaceAll("\\s+", " ").trim();
                sections.merge(heading, text, (before, next) -> before.isEmpty() ? next : before + " " + next);
            }
        }
        return sections;
    }

    /** Each sentence behind the signature, each bullet, and the lines of Returns and Throws. */
    private static void promise(String heading, String section, List<String> quotes) {
        String body = section.substring(section.indexOf("`: ") + 3);
        String[] pieces = body.split("(?<=\\.) (?=[A-Z`-])|(?<=;) (?=-2|-10|if the result)| (?=`\\w+`: )| (?=Throws )"
                + "| (?=Returns )");
        for (String piece : pieces) {
            CHECK.due(heading + " has a test of: " + piece, true, () -> covered(piece, quotes));
        }
    }

    private static void terms(String section, List<String> quotes) {
        for (String piece : section.split("(?<=[.;:]) ")) {
            boolean edge = Stream.of(WITHOUT_EDGE).noneMatch(piece::startsWith);
            CHECK.due("Terms have a test of: " + piece, true, () -> !edge || covered(piece, quotes));
        }
    }

    private static boolean covered(String piece, List<String> quotes) {
        return quotes.stream().anyMatch(quote -> quote.contains(piece) || piece.contains(quote));
    }
}

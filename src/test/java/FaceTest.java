import java.lang.reflect.Field;
import java.lang.reflect.Method;
import java.lang.reflect.Modifier;
import java.nio.file.Files;
import java.nio.file.Path;
import java.util.ArrayList;
import java.util.List;
import java.util.TreeSet;
import java.util.regex.Matcher;
import java.util.regex.Pattern;

/** The document's face, word for word, and what LANGUAGE.md's rules 1, 5 and 11 say of the members of the class and the classes in it. */
public final class FaceTest {
    private static final Check CHECK = new Check("FaceTest");
    private static final Pattern CALL = Pattern.compile("public (\\w+) (\\w+)\\((.*?)\\).*;");

    public static void main(String[] args) throws Exception {
        TreeSet<String> names = new TreeSet<>();
        TreeSet<String> due = face(names);
        TreeSet<String> open = new TreeSet<>();
        for (Method method : SeriesBench.class.getDeclaredMethods()) {
            if (!Modifier.isPrivate(method.getModifiers()) && !method.isSynthetic()) {
                open.add(signature(method));
                CHECK.due(method.getName() + " is public and of objects", Modifier.PUBLIC,
                        () -> method.getModifiers() & (Modifier.PUBLIC | Modifier.PROTECTED | Modifier.STATIC));
            }
        }
        CHECK.due("the document's face is found", 26, () -> due.size());
        wordForWord();
        CHECK.due("the methods that are not private", due, () -> open);
        CHECK.due("the class is public and final", Modifier.PUBLIC | Modifier.FINAL,
                () -> SeriesBench.class.getModifiers());
        CHECK.due("the constructors", 1, () -> SeriesBench.class.getDeclaredConstructors().length);
        CHECK.due("the constructor is public", Modifier.PUBLIC,
                () -> SeriesBench.class.getDeclaredConstructors()[0].getModifiers());
        CHECK.due("NONE is a constant", Modifier.PUBLIC | Modifier.STATIC | Modifier.FINAL,
                () -> modifiers("NONE"));
        List<Class<?>> all = new ArrayList<>(List.of(SeriesBench.class.getDeclaredClasses()));
        for (Class<?> inner : all) {
            int modifiers = inner.getModifiers();
            CHECK.due(inner.getName() + " is closed", false,
                    () -> Modifier.isPublic(modifiers) || Modifier.isProtected(modifiers));
        }
        all.add(SeriesBench.class);
        for (Class<?> each : all) {
            fields(each);
            privateMethods(each, names);
        }
        CHECK.end();
    }

    private static String document() throws Exception {
        String document = Files.readString(Path.of("../shared/DOC.md"));
        int start = document.indexOf("```java\n") + "```java\n".length();
        return document.substring(start, document.indexOf("```", start));
    }

    /** Each line of the document's face stands in the program, which may break lines elsewhere. */
    private static void wordForWord() throws Exception {
        String program = Files.readString(Path.of("src/main/java/SeriesBench.java")).replaceAll("\\s+", " ");
        for (String line : document().lines().map(String::trim).filter(line -> line.length() > 1).toList()) {
            String head = line.replaceFirst("\\);$", ") {").replaceFirst("Exception;$", "Exception {");
            CHECK.due("the program has " + line, true, () -> program.contains(head));
        }
    }

    /** The calls as ../shared/DOC.md has them, without the names of their arguments. */
    private static TreeSet<String> face(TreeSet<String> names) throws Exception {
        TreeSet<String> face = new TreeSet<>();
        Matcher matcher = CALL.matcher(document());
        while (matcher.find()) {
            names.add(matcher.group(2));
            face.add(matcher.group(1) + " " + matcher.group(2) + "(" + matcher.group(3).replaceAll("(\\w+) \\w+", "$1")
                    + ")");
        }
        return face;
    }

    private static String signature(Method method) {
        List<String> parameters = new ArrayList<>();
        for (Class<?> type : method.getParameterTypes()) {
            parameters.add(type.getName());
        }
        return method.getReturnType().getName() + " " + method.getName() + "(" + String.join(", ", parameters) + ")";
    }

    private static Object modifiers(String field) {
        try {
            return SeriesBench.class.getDeclaredField(field).getModifiers();
        } catch (NoSuchFieldException e) {
            return "no such field";
        }
    }

    private static void fields(Class<?> each) {
        for (Field field : each.getDeclaredFields()) {
            int modifiers = field.getModifiers();
            boolean known = each != SeriesBench.class || field.getName().equals("NONE") || field.isSynthetic();
            CHECK.due(field + " is final if static", true,
                    () -> Modifier.isFinal(modifiers) || !Modifier.isStatic(modifiers));
            CHECK.due(field + " is private", true, () -> known || Modifier.isPrivate(modifiers));
        }
    }

    private static void privateMethods(Class<?> each, TreeSet<String> names) {
        for (Method method : each.getDeclaredMethods()) {
            if (Modifier.isPrivate(method.getModifiers())) {
                CHECK.due(method + " bears no name of the face", false, () -> names.contains(method.getName()));
            }
        }
    }
}

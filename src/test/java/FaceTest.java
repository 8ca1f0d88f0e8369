import java.lang.reflect.Field;
import java.lang.reflect.Method;
import java.lang.reflect.Modifier;
import java.util.ArrayList;
import java.util.List;
import java.util.TreeSet;

/** The document's face, and what LANGUAGE.md's rules 1, 2, 5 and 11 say of the class and the classes in it. */
public final class FaceTest {
    private static final Check CHECK = new Check("FaceTest");

    private static final String[] FACE = {
        "int begin(int, int)", "int setEnd(int, int, boolean, int)", "int setStep(int, int, int, int, int)",
        "int random(int, int, int)", "int states(int)", "int end(int, int, boolean)", "int step(int, int, int, int)",
        "int weight(int, int)", "int powerWeight(int, int, int)", "int total(int, int)", "int support(int, int)",
        "int first(int)", "int combine(int, int, int, int)", "int derive(int, int, int)", "int scale(int, int)",
        "int dimension(int, int)", "int basisWord(int, int)", "int differing(int, int)", "int hankelRank(int, int)",
        "boolean recurs(int, int)", "int inverse(int)", "int append(int)", "int clearText()", "int parse(int)",
        "int undo()", "long digest()"};

    public static void main(String[] args) {
        TreeSet<String> due = new TreeSet<>(List.of(FACE));
        TreeSet<String> open = new TreeSet<>();
        TreeSet<String> names = new TreeSet<>();
        for (Method method : SeriesBench.class.getDeclaredMethods()) {
            if (!Modifier.isPrivate(method.getModifiers())) {
                open.add(signature(method));
                names.add(method.getName());
                CHECK.due(method.getName() + " is public and of objects", Modifier.PUBLIC, method::getModifiers);
            }
        }
        CHECK.due("the methods that are not private", due, () -> open);
        CHECK.due("the class is public and final", Modifier.PUBLIC | Modifier.FINAL,
                () -> SeriesBench.class.getModifiers());
        CHECK.due("the constructors", 1, () -> SeriesBench.class.getDeclaredConstructors().length);
        CHECK.due("the constructor is public", Modifier.PUBLIC,
                () -> SeriesBench.class.getDeclaredConstructors()[0].getModifiers());
        List<Class<?>> all = new ArrayList<>(List.of(SeriesBench.class.getDeclaredClasses()));
        CHECK.due("at most twelve classes", true, () -> all.size() < 12);
        for (Class<?> inner : all) {
            int modifiers = inner.getModifiers();
            CHECK.due(inner.getName() + " is closed and static", true, () -> Modifier.isStatic(modifiers)
                    && !Modifier.isPublic(modifiers) && !Modifier.isProtected(modifiers));
        }
        all.add(SeriesBench.class);
        for (Class<?> each : all) {
            fields(each);
            methods(each, names);
        }
        CHECK.end();
    }

    private static String signature(Method method) {
        List<String> parameters = new ArrayList<>();
        for (Class<?> type : method.getParameterTypes()) {
            parameters.add(type.getName());
        }
        return method.getReturnType().getName() + " " + method.getName() + "(" + String.join(", ", parameters) + ")";
    }

    private static void fields(Class<?> each) {
        int count = 0;
        for (Field field : each.getDeclaredFields()) {
            int modifiers = field.getModifiers();
            if (Modifier.isStatic(modifiers)) {
                CHECK.due(field + " is final", true, () -> Modifier.isFinal(modifiers));
                CHECK.due(field + " is a number", true, () -> field.getType().isPrimitive());
            } else {
                count++;
            }
            boolean known = each != SeriesBench.class || field.getName().equals("NONE");
            CHECK.due(field + " is private", true, () -> known || Modifier.isPrivate(modifiers));
        }
        int fields = count;
        CHECK.due(each.getName() + " has at most twenty fields", true, () -> fields <= 20);
    }

    private static void methods(Class<?> each, TreeSet<String> names) {
        for (Method method : each.getDeclaredMethods()) {
            CHECK.due(method + " has at most seven parameters", true, () -> method.getParameterCount() <= 7);
            boolean ofFace = each == SeriesBench.class && Modifier.isPublic(method.getModifiers());
            CHECK.due(method + " bears no name of the face", true, () -> ofFace || !names.contains(method.getName()));
            CHECK.due(method + " is no lambda", false, () -> method.isSynthetic());
        }
    }
}

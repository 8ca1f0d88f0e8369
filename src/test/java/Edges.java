import java.lang.reflect.InvocationTargetException;
import java.lang.reflect.Method;
import java.util.ArrayList;
import java.util.List;
import java.util.TreeMap;

/** What the tests of single sentences share. Each method with a Sentence is a test, named after promise and sentence. */
abstract class Edges {
    static final Class<?> INDEX = IndexOutOfBoundsException.class;
    static final Class<?> ARGUMENT = IllegalArgumentException.class;
    static final Class<?> STATE = IllegalStateException.class;
    static final int NONE = -1;
    static final int PRIME = 10007;
    static final int A = 0;
    static final int B = 1;

    interface Script {
        void run(Bench x);
    }

    interface Act {
        Object on(Bench x);
    }

    interface ActWith {
        Object on(Bench x, int argument);
    }

    static final Script NEW = x -> { };

    /** Slot s has s + 1 states; a word weighs (s + 1) * 2^(its letters a) * 3^(its letters b). Four states are saved. */
    static final Script FOUR = x -> {
        for (int slot = 0; slot < 4; slot++) {
            x.begin(slot, slot + 1);
            fill(x, slot, slot + 1, 1, 2, 3);
        }
        write(x, "a*");
    };

    /** Slot 0 has 3 states, one state is saved. */
    static final Script THREE_STATES = x -> x.random(0, 3, 5);

    private final Check check = new Check(getClass().getSimpleName());
    private String test = "";

    // ---- the run

    static List<Method> tests(Class<?> of) {
        TreeMap<String, Method> found = new TreeMap<>();
        for (Method method : of.getDeclaredMethods()) {
            if (method.isAnnotationPresent(Sentence.class)) {
                found.put(method.getName(), method);
            }
        }
        return new ArrayList<>(found.values());
    }

    final void run() {
        for (Method method : tests(getClass())) {
            int before = check.calls();
            test = method.getName();
            check.due(test, "runs to its end", () -> outcome(method));
            check.due(test, true, () -> check.calls() > before + 1);
        }
        check.end();
    }

    private String outcome(Method method) {
        try {
            method.invoke(this);
            return "runs to its end";
        } catch (InvocationTargetException e) {
            return "ends with " + e.getCause();
        } catch (IllegalAccessException e) {
            return "is not open: " + e.getMessage();
        }
    }

    private String place() {
        for (StackTraceElement frame : new Throwable().getStackTrace()) {
            if (frame.getClassName().equals(getClass().getName())) {
                return test + " (line " + frame.getLineNumber() + ")";
            }
        }
        return test;
    }

    // ---- what a test asks

    final void due(Object want, Bench x, Act act) {
        check.due(place(), want, () -> act.on(x));
    }

    final void due(Object want, Script build, Act act) {
        due(want, made(build), act);
    }

    /** The call throws the exception, and all that the object tells then is what it tells without the call. */
    final void refused(Class<?> exception, Script build, Act act) {
        Bench asked = made(build);
        due(exception, asked, act);
        due(history(made(build)), asked, x -> history(x));
    }

    /** The call is refused with each of these arguments; after the first one that isn't, the others are left out. */
    final void refusedWith(Class<?> exception, Script build, ActWith act, int... arguments) {
        int before = check.wrong();
        for (int argument : arguments) {
            if (check.wrong() == before) {
                refused(exception, build, x -> act.on(x, argument));
            }
        }
    }

    /** The call is refused with the first argument below a range, with the first above it, and far outside. */
    final void refusedOutside(int least, int most, Class<?> exception, Script build, ActWith act) {
        refusedWith(exception, build, act, least - 1, most + 1, Integer.MIN_VALUE, Integer.MAX_VALUE);
    }

    final void refusedOutsideSlots(Script build, ActWith act) {
        refusedOutside(0, 3, INDEX, build, act);
    }

    final void succeeds(Script build, Act act) {
        due(false, build, x -> Check.answer(() -> act.on(x)).contains("Exception"));
    }

    /** The call saves one state, and undo brings back all that the slots held. */
    final void undoable(Script build, int saved, Act act) {
        Bench x = made(build);
        long slots = x.digest() - saved;
        succeedsOn(x, act);
        int then = Math.min(saved + 1, 4);
        due(then - 1, x, y -> y.undo());
        due(slots + then - 1, x, y -> y.digest());
    }

    /** The call saves no state and changes nothing. */
    final void changesNothing(Script build, Act act) {
        Bench asked = made(build);
        succeedsOn(asked, act);
        due(history(made(build)), asked, x -> history(x));
    }

    private void succeedsOn(Bench x, Act act) {
        due(false, x, y -> Check.answer(() -> act.on(y)).contains("Exception"));
    }

    /** All that an object can still tell: what the slots hold, what each undo brings back, and the text. */
    static List<Object> history(Bench x) {
        List<Object> told = new ArrayList<>();
        told.add(x.digest());
        for (int k = 0; k < 5; k++) {
            told.add(Check.answer(() -> x.undo()));
            told.add(x.digest());
        }
        told.add(x.parse(0));
        told.add(x.digest());
        told.add(x.clearText());
        return told;
    }

    final void holds(Bench x, int slot, int[] initial, int[] last, int[][] a, int[][] b) {
        due(initial.length, x, y -> y.states(slot));
        for (int i = 0; i < initial.length; i++) {
            int state = i;
            due(initial[i], x, y -> y.end(slot, state, false));
            due(last[i], x, y -> y.end(slot, state, true));
            for (int j = 0; j < initial.length; j++) {
                int to = j;
                due(a[i][j], x, y -> y.step(slot, A, state, to));
                due(b[i][j], x, y -> y.step(slot, B, state, to));
            }
        }
    }

    final void holdsOne(Bench x, int slot, int initial, int last, int a, int b) {
        holds(x, slot, row(initial), row(last), matrix(row(a)), matrix(row(b)));
    }

    // ---- what a test builds

    static Bench made(Script build) {
        Bench x = new Bench();
        build.run(x);
        return x;
    }

    static int[] row(int... numbers) {
        return numbers;
    }

    static int[][] matrix(int[]... rows) {
        return rows;
    }

    /** Sets the numbers of state 0. */
    static void fill(Bench x, int slot, int initial, int last, int a, int b) {
        x.setEnd(slot, 0, false, initial);
        x.setEnd(slot, 0, true, last);
        x.setStep(slot, A, 0, 0, a);
        x.setStep(slot, B, 0, 0, b);
    }

    static void one(Bench x, int slot, int initial, int last, int a, int b) {
        x.begin(slot, 1);
        fill(x, slot, initial, last, a, b);
    }

    static void make(Bench x, int slot, int[] initial, int[] last, int[][] a, int[][] b) {
        int n = initial.length;
        x.begin(slot, n);
        for (int i = 0; i < n; i++) {
            x.setEnd(slot, i, false, initial[i]);
            x.setEnd(slot, i, true, last[i]);
            for (int j = 0; j < n; j++) {
                x.setStep(slot, A, i, j, a[i][j]);
                x.setStep(slot, B, i, j, b[i][j]);
            }
        }
    }

    /** Makes n states in a row: the word of n - 1 times the letter weighs 1, all others 0. */
    static void chain(Bench x, int slot, int n, int letter) {
        x.begin(slot, n);
        x.setEnd(slot, 0, false, 1);
        x.setEnd(slot, n - 1, true, 1);
        for (int i = 0; i + 1 < n; i++) {
            x.setStep(slot, letter, i, i + 1, 1);
        }
    }

    /** Makes an automaton in which each word weighs its number, modulo 10007. */
    static void numbers(Bench x, int slot) {
        make(x, slot, row(1, 0), row(0, 1), matrix(row(1, 1), row(0, 2)), matrix(row(1, 2), row(0, 2)));
    }

    static void write(Bench x, String text) {
        for (char sign : text.toCharArray()) {
            x.append(sign);
        }
    }
}

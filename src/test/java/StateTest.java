/** Promises 26 and 27: undo, digest. */
public final class StateTest {
    private static final Class<?> STATE = IllegalStateException.class;
    private static final Check CHECK = new Check("StateTest");

    public static void main(String[] args) {
        undoOfEachCall();
        fourStates();
        slotsAlone();
        digest();
        answersRestOnTheStateAlone();
        CHECK.end();
    }

    /** The call of a new object with 4 states in slot 1 and the text a is undone. */
    private static void undone(String what, Edges.Act call) {
        Bench x = new Bench();
        x.random(1, 4, 3);
        x.append('a');
        long before = slots(x);
        Check.answer(() -> call.on(x));
        CHECK.due("undo of " + what, 1, () -> x.undo());
        CHECK.due("the slots after undo of " + what, before, () -> slots(x));
        CHECK.due("undo of the first call", 0, () -> x.undo());
        CHECK.due("states then", 0, () -> x.states(1));
        CHECK.due("undo without a saved state", STATE, () -> x.undo());
    }

    /** A number for all that the slots hold. */
    private static long slots(Bench x) {
        long h = 7;
        for (int slot = 0; slot < 4; slot++) {
            h = automaton(x, slot, h);
        }
        return h;
    }

    private static long automaton(Bench x, int slot, long start) {
        int n = x.states(slot);
        long h = 31 * start + n;
        for (int i = 0; i < n; i++) {
            h = 31 * h + x.end(slot, i, false);
            h = 31 * h + x.end(slot, i, true);
        }
        for (int letter = 0; letter < 2; letter++) {
            for (int i = 0; i < n; i++) {
                for (int j = 0; j < n; j++) {
                    h = 31 * h + x.step(slot, letter, i, j);
                }
            }
        }
        return h;
    }

    private static void undoOfEachCall() {
        undone("begin", x -> x.begin(1, 12));
        undone("setEnd", x -> x.setEnd(1, 2, true, 999));
        undone("setStep", x -> x.setStep(1, 1, 2, 3, 999));
        undone("random", x -> x.random(1, 4, 4));
        undone("combine", x -> x.combine(1, 1, 1, 2));
        undone("derive", x -> x.derive(1, 1, 6));
        undone("scale", x -> x.scale(1, 17));
        undone("parse", x -> x.parse(1));
        undone("a begin that changes nothing", x -> x.begin(2, 0));
        undone("a setEnd that changes nothing", x -> x.setEnd(1, 0, true, x.end(1, 0, true)));
        undone("a scale that changes nothing", x -> x.scale(3, 1));
        undone("a copy onto itself", x -> x.derive(1, 1, 0));
    }

    private static void fourStates() {
        Bench x = new Bench();
        for (int states = 1; states <= 12; states++) {
            x.begin(states % 3, states);
        }
        int[] due = {9, 8, 7, 6};
        for (int i = 0; i < 4; i++) {
            int slot = (12 - i) % 3;
            int remaining = 3 - i;
            CHECK.due("undo", remaining, () -> x.undo());
            CHECK.due("states of slot " + slot, due[i], () -> x.states(slot));
        }
        CHECK.due("undo of a fifth", STATE, () -> x.undo());
        CHECK.due("states after it", 7, () -> x.states(1));
        CHECK.due("states of slot 2 after it", 8, () -> x.states(2));
        CHECK.due("states of slot 0 after it", 6, () -> x.states(0));
        x.begin(1, 2);
        x.setEnd(1, 1, true, 4);
        CHECK.due("undo after new calls", 1, () -> x.undo());
        CHECK.due("the number", 0, () -> x.end(1, 1, true));
        CHECK.due("undo of the begin", 0, () -> x.undo());
        CHECK.due("states", 7, () -> x.states(1));
    }

    private static void slotsAlone() {
        Bench x = new Bench();
        x.begin(0, 3);
        x.append('a');
        x.append('b');
        CHECK.due("undo", 0, () -> x.undo());
        CHECK.due("the text after undo", 2, () -> x.clearText());
        x.begin(0, 3);
        Check.answer(() -> x.begin(0, 13));
        Check.answer(() -> x.setEnd(0, 3, true, 1));
        Check.answer(() -> x.setEnd(0, 0, true, -1));
        Check.answer(() -> x.setStep(0, 0, 0, 0, 10007));
        Check.answer(() -> x.random(0, 1, -1));
        Check.answer(() -> x.combine(0, 0, 0, 5));
        Check.answer(() -> x.derive(0, 0, 9));
        Check.answer(() -> x.scale(0, -1));
        CHECK.due("undo after refused calls", 0, () -> x.undo());
    }

    private static long expected(Bench x, int length, int saved) {
        long h = 31L * 3019 + length;
        for (int slot = 0; slot < 4; slot++) {
            h = automaton(x, slot, h);
            for (int kind = 0; kind < 3; kind++) {
                h = 31 * h + x.dimension(slot, kind);
            }
        }
        return 31 * h + saved;
    }

    private static void digest() {
        Edges.Act[] calls = {x -> x.append('a'), x -> x.append('*'), x -> x.parse(2), x -> x.random(0, 7, 5),
            x -> x.random(1, 2, 6), x -> x.combine(3, 1, 1, 0), x -> x.setStep(3, 1, 0, 3, 10006), x -> x.clearText(),
            x -> x.undo(), x -> x.undo()};
        int[] lengths = {0, 1, 2, 2, 2, 2, 2, 2, 0, 0, 0};
        int[] saved = {0, 0, 0, 1, 2, 3, 4, 4, 4, 3, 2};
        for (int made = 0; made <= calls.length; made++) {
            int m = made;
            long due = expected(after(calls, made), lengths[made], saved[made]);
            Bench x = after(calls, made);
            CHECK.due("digest after " + m + " calls", due, () -> x.digest());
            CHECK.due("digest again", due, () -> x.digest());
        }
    }

    /** A call is answered alike, whatever was asked, or done and undone, of another slot just before. */
    private static void answersRestOnTheStateAlone() {
        Edges.ActWith[] questions = {(x, s) -> x.weight(s, 41), (x, s) -> x.powerWeight(s, 5, 7), (x, s) -> x.total(s, 9),
            (x, s) -> x.support(s, 300), (x, s) -> x.first(s), (x, s) -> x.dimension(s, 0), (x, s) -> x.dimension(s, 1),
            (x, s) -> x.dimension(s, 2), (x, s) -> x.basisWord(s, 1), (x, s) -> x.differing(s, 1),
            (x, s) -> x.hankelRank(s, 31), (x, s) -> x.recurs(s, 2)};
        Edges.ActWith[] changes = {(x, s) -> x.random(s, 12, 8), (x, s) -> x.combine(s, s, s, 2),
            (x, s) -> x.derive(s, s, 6), (x, s) -> x.scale(s, 3), (x, s) -> x.parse(s)};
        for (Edges.ActWith before : questions) {
            alike(questions, before, false);
            alike(changes, before, false);
        }
        for (Edges.ActWith before : changes) {
            alike(questions, before, true);
            alike(changes, before, true);
        }
    }

    private static void alike(Edges.ActWith[] calls, Edges.ActWith before, boolean undone) {
        for (Edges.ActWith call : calls) {
            for (int slot = 0; slot < 4; slot++) {
                int s = slot;
                Bench fresh = different();
                String due = Check.answer(() -> call.on(fresh, s));
                Bench asked = different();
                Check.answer(() -> before.on(asked, (s + 1) % 4));
                if (undone) {
                    Check.answer(() -> asked.undo());
                }
                CHECK.due("a call of slot " + s + " after another one", due, () -> call.on(asked, s));
                CHECK.due("the slots after it", slots(fresh), () -> slots(asked));
            }
        }
    }

    /** Four slots with automata of different sizes, and a text. */
    private static Bench different() {
        Bench x = new Bench();
        x.random(0, 6, 4);
        x.random(1, 3, 5);
        x.random(2, 1, 6);
        x.random(3, 5, 7);
        for (char sign : "(a+2b)*b".toCharArray()) {
            x.append(sign);
        }
        return x;
    }

    private static Bench after(Edges.Act[] calls, int made) {
        Bench x = new Bench();
        for (int k = 0; k < made; k++) {
            calls[k].on(x);
        }
        return x;
    }
}

/** Promises 1 to 8: a new object, begin, setEnd, setStep, random, states, end, step. */
public final class AutomataTest {
    private static final Class<?> INDEX = IndexOutOfBoundsException.class;
    private static final Class<?> ARGUMENT = IllegalArgumentException.class;
    private static final Class<?> STATE = IllegalStateException.class;
    private static final Check CHECK = new Check("AutomataTest");

    public static void main(String[] args) {
        newObject();
        begin();
        setEnd();
        setStep();
        random();
        reading();
        CHECK.end();
    }

    private static void newObject() {
        Bench x = new Bench();
        for (int slot = 0; slot < 4; slot++) {
            int s = slot;
            CHECK.due("states of a new object", 0, () -> x.states(s));
        }
        CHECK.due("the text of a new object", 0, () -> x.clearText());
        CHECK.due("undo on a new object", STATE, () -> x.undo());
        long h = 3019;
        for (int values = 0; values < 18; values++) {
            h = 31 * h;
        }
        CHECK.due("digest of a new object", h, () -> x.digest());
        CHECK.due("NONE", -1, () -> SeriesBench.NONE);
    }

    private static void begin() {
        Bench x = new Bench();
        CHECK.due("begin of slot -1", INDEX, () -> x.begin(-1, 1));
        CHECK.due("begin of slot 4", INDEX, () -> x.begin(4, 13));
        CHECK.due("begin with -1 states", ARGUMENT, () -> x.begin(0, -1));
        CHECK.due("begin with 13 states", ARGUMENT, () -> x.begin(3, 13));
        CHECK.due("undo after refused calls", STATE, () -> x.undo());
        CHECK.due("begin with 12 states", 0, () -> x.begin(3, 12));
        CHECK.due("states", 12, () -> x.states(3));
        CHECK.due("states of another slot", 0, () -> x.states(2));
        x.random(3, 12, 5);
        CHECK.due("begin on 12 states", 12, () -> x.begin(3, 5));
        for (int i = 0; i < 5; i++) {
            int s = i;
            CHECK.due("initial after begin", 0, () -> x.end(3, s, false));
            CHECK.due("final after begin", 0, () -> x.end(3, s, true));
            for (int j = 0; j < 10; j++) {
                int t = j;
                CHECK.due("step after begin", 0, () -> x.step(3, t / 5, s, t % 5));
            }
        }
        CHECK.due("begin with 0 states", 5, () -> x.begin(3, 0));
        CHECK.due("begin on 0 states", 0, () -> x.begin(3, 1));
    }

    private static void setEnd() {
        Bench x = new Bench();
        CHECK.due("setEnd without states", INDEX, () -> x.setEnd(0, 0, true, 1));
        x.begin(1, 3);
        CHECK.due("setEnd of slot 4", INDEX, () -> x.setEnd(4, 0, true, 1));
        CHECK.due("setEnd of slot -1", INDEX, () -> x.setEnd(-1, 0, true, 1));
        CHECK.due("setEnd of state 3", INDEX, () -> x.setEnd(1, 3, false, 10007));
        CHECK.due("setEnd of state -1", INDEX, () -> x.setEnd(1, -1, false, 1));
        CHECK.due("setEnd to -1", ARGUMENT, () -> x.setEnd(1, 2, false, -1));
        CHECK.due("setEnd to 10007", ARGUMENT, () -> x.setEnd(1, 2, true, 10007));
        CHECK.due("setEnd to 10006", 0, () -> x.setEnd(1, 2, true, 10006));
        CHECK.due("setEnd of the initial one", 0, () -> x.setEnd(1, 2, false, 7));
        CHECK.due("setEnd again", 10006, () -> x.setEnd(1, 2, true, 0));
        CHECK.due("setEnd of the initial one again", 7, () -> x.setEnd(1, 2, false, 8));
        CHECK.due("the final number", 0, () -> x.end(1, 2, true));
        CHECK.due("the initial number", 8, () -> x.end(1, 2, false));
        CHECK.due("another state's initial number", 0, () -> x.end(1, 1, false));
        CHECK.due("undo of a setEnd", 3, () -> x.undo());
        CHECK.due("the initial number after undo", 7, () -> x.end(1, 2, false));
    }

    private static void setStep() {
        Bench x = new Bench();
        CHECK.due("setStep without states", INDEX, () -> x.setStep(0, 0, 0, 0, 1));
        x.begin(2, 3);
        CHECK.due("setStep of slot 4", INDEX, () -> x.setStep(4, 0, 0, 0, 1));
        CHECK.due("setStep of slot -1", INDEX, () -> x.setStep(-1, 0, 0, 0, 1));
        CHECK.due("setStep of letter 2", INDEX, () -> x.setStep(2, 2, 0, 0, 1));
        CHECK.due("setStep of letter -1", INDEX, () -> x.setStep(2, -1, 0, 0, 10007));
        CHECK.due("setStep from 3", INDEX, () -> x.setStep(2, 0, 3, 0, 1));
        CHECK.due("setStep from -1", INDEX, () -> x.setStep(2, 0, -1, 0, 1));
        CHECK.due("setStep to 3", INDEX, () -> x.setStep(2, 0, 0, 3, -1));
        CHECK.due("setStep to -1", INDEX, () -> x.setStep(2, 0, 0, -1, 1));
        CHECK.due("setStep with -1", ARGUMENT, () -> x.setStep(2, 0, 0, 0, -1));
        CHECK.due("setStep with 10007", ARGUMENT, () -> x.setStep(2, 0, 0, 0, 10007));
        CHECK.due("setStep", 0, () -> x.setStep(2, 1, 0, 2, 10006));
        CHECK.due("setStep of the other letter", 0, () -> x.setStep(2, 0, 0, 2, 5));
        CHECK.due("setStep of the other way", 0, () -> x.setStep(2, 1, 2, 0, 6));
        CHECK.due("setStep again", 10006, () -> x.setStep(2, 1, 0, 2, 0));
        CHECK.due("setStep of the other letter again", 5, () -> x.setStep(2, 0, 0, 2, 9));
        CHECK.due("the step back", 6, () -> x.step(2, 1, 2, 0));
        CHECK.due("undo of a setStep", 3, () -> x.undo());
        CHECK.due("the step after undo", 5, () -> x.step(2, 0, 0, 2));
    }

    private static void random() {
        Bench x = new Bench();
        CHECK.due("random of slot 4", INDEX, () -> x.random(4, 13, 0));
        CHECK.due("random of slot -1", INDEX, () -> x.random(-1, 0, 0));
        CHECK.due("random with 13 states", ARGUMENT, () -> x.random(0, 13, 0));
        CHECK.due("random with -1 states", ARGUMENT, () -> x.random(0, -1, 0));
        CHECK.due("random with seed -1", ARGUMENT, () -> x.random(0, 1, -1));
        CHECK.due("random with seed 1000000", ARGUMENT, () -> x.random(0, 1, 1000000));
        CHECK.due("random without states", 0, () -> x.random(0, 0, 0));
        int[] seeds = {0, 1, 77, 999999};
        for (int seed : seeds) {
            for (int states = 0; states <= 12; states += 3) {
                drawn(states, seed);
            }
        }
        x.random(1, 9, 77);
        x.random(1, 12, 77);
        CHECK.due("undo of a random", 2, () -> x.undo());
        CHECK.due("states after undo", 9, () -> x.states(1));
    }

    private static void drawn(int states, int seed) {
        Bench x = new Bench();
        long[] s = {seed};
        int[][] ends = new int[states][2];
        int weight = 0;
        for (int[] pair : ends) {
            pair[0] = draw(s);
            pair[1] = draw(s);
            weight += pair[0] * pair[1];
        }
        CHECK.due("random(1, " + states + ", " + seed + ")", weight, () -> x.random(1, states, seed));
        for (int i = 0; i < states; i++) {
            int k = i;
            CHECK.due("an initial number drawn", ends[i][0], () -> x.end(1, k, false));
            CHECK.due("a final number drawn", ends[i][1], () -> x.end(1, k, true));
        }
        for (int i = 0; i < 2 * states * states; i++) {
            int k = i;
            CHECK.due("a step drawn", draw(s),
                    () -> x.step(1, k / (states * states), k / states % states, k % states));
        }
    }

    private static int draw(long[] s) {
        s[0] = (1103515245L * s[0] + 12345) % 2147483648L;
        return (int) (s[0] / 65536 % 4);
    }

    private static void reading() {
        Bench x = new Bench();
        x.begin(0, 2);
        CHECK.due("states of slot -1", INDEX, () -> x.states(-1));
        CHECK.due("states of slot 4", INDEX, () -> x.states(4));
        CHECK.due("end of slot -1", INDEX, () -> x.end(-1, 0, true));
        CHECK.due("end of slot 4", INDEX, () -> x.end(4, 0, true));
        CHECK.due("end of state 2", INDEX, () -> x.end(0, 2, true));
        CHECK.due("end of state -1", INDEX, () -> x.end(0, -1, false));
        CHECK.due("end without states", INDEX, () -> x.end(1, 0, false));
        CHECK.due("step of slot -1", INDEX, () -> x.step(-1, 0, 0, 0));
        CHECK.due("step of slot 4", INDEX, () -> x.step(4, 0, 0, 0));
        CHECK.due("step of letter 2", INDEX, () -> x.step(0, 2, 0, 0));
        CHECK.due("step of letter -1", INDEX, () -> x.step(0, -1, 0, 0));
        CHECK.due("step from 2", INDEX, () -> x.step(0, 0, 2, 0));
        CHECK.due("step from -1", INDEX, () -> x.step(0, 0, -1, 0));
        CHECK.due("step to 2", INDEX, () -> x.step(0, 0, 0, 2));
        CHECK.due("step to -1", INDEX, () -> x.step(0, 0, 0, -1));
        CHECK.due("step without states", INDEX, () -> x.step(1, 0, 0, 0));
        CHECK.due("undo of the begin alone", 0, () -> x.undo());
    }
}

import java.math.BigInteger;

/** Promises 1 to 8, sentence by sentence: the last value that is allowed and the first that isn't. */
public final class AutomataEdgesTest extends Edges {
    public static void main(String[] args) {
        new AutomataEdgesTest().run();
    }

    /** Slot 0 has 12 states, slot 1 one, slot 2 none, slot 3 five. */
    private static final Script SIZES = x -> {
        x.random(0, 12, 1);
        x.random(1, 1, 2);
        x.random(3, 5, 3);
        write(x, "ab");
    };

    // ---- Promise 1: a new object

    @Sentence(of = "Promise 1", says = "Creates a workbench whose automata have no states.")
    void promise1_automata_have_no_states() {
        for (int slot = 0; slot <= 3; slot++) {
            int s = slot;
            due(0, NEW, x -> x.states(s));
            due(INDEX, NEW, x -> x.end(s, 0, false));
            due(INDEX, NEW, x -> x.end(s, 0, true));
            due(INDEX, NEW, x -> x.step(s, A, 0, 0));
            due(INDEX, NEW, x -> x.basisWord(s, 0));
            due(0, NEW, x -> x.weight(s, 0));
            due(0, NEW, x -> x.begin(s, 12));
        }
        due(0, NEW, x -> x.clearText());
        due(STATE, NEW, x -> x.undo());
    }

    @Sentence(of = "Promise 1", says = "Creates a workbench whose automata have no states.")
    void promise1_another_object_is_not_touched() {
        Bench before = made(NEW);
        made(FOUR);
        for (Bench x : new Bench[] {before, made(NEW)}) {
            for (int slot = 0; slot <= 3; slot++) {
                int s = slot;
                due(0, x, y -> y.states(s));
            }
            due(0, x, y -> y.clearText());
            due(STATE, x, y -> y.undo());
        }
    }

    // ---- Promise 2: begin

    @Sentence(of = "Promise 2", says = "Makes the automaton of a slot one with n states whose numbers are all 0.")
    void promise2_all_numbers_are_0() {
        for (int before : row(0, 1, 11, 12)) {
            for (int states : row(0, 1, 11, 12)) {
                Bench x = made(y -> y.random(2, before, 999));
                x.begin(2, states);
                allNumbersAre0(x, 2, states);
            }
        }
    }

    @Sentence(of = "Promise 2", says = "Makes the automaton of a slot one with n states whose numbers are all 0.")
    void promise2_numbers_of_a_larger_automaton_do_not_come_back() {
        Bench x = made(y -> y.random(2, 12, 999));
        x.begin(2, 0);
        x.begin(2, 5);
        x.begin(2, 12);
        allNumbersAre0(x, 2, 12);
    }

    private void allNumbersAre0(Bench x, int slot, int states) {
        due(states, x, y -> y.states(slot));
        for (int i = 0; i < states; i++) {
            int from = i;
            due(0, x, y -> y.end(slot, from, false));
            due(0, x, y -> y.end(slot, from, true));
            for (int j = 0; j < states; j++) {
                int to = j;
                due(0, x, y -> y.step(slot, A, from, to));
                due(0, x, y -> y.step(slot, B, from, to));
            }
        }
        due(INDEX, x, y -> y.end(slot, states, false));
    }

    @Sentence(of = "Promise 2", says = "Undoable.")
    void promise2_is_undoable() {
        undoable(NEW, 0, x -> x.begin(0, 12));
        undoable(NEW, 0, x -> x.begin(0, 0));
        undoable(FOUR, 4, x -> x.begin(3, 0));
        undoable(FOUR, 4, x -> x.begin(0, 12));
    }

    @Sentence(of = "Promise 2", says = "`slot`: 0 to 3")
    void promise2_slot_is_0_to_3() {
        due(1, FOUR, x -> x.begin(0, 12));
        due(4, FOUR, x -> x.begin(3, 12));
        Bench x = made(FOUR);
        x.begin(0, 7);
        x.begin(3, 9);
        int[] states = {7, 2, 3, 9};
        for (int slot = 0; slot <= 3; slot++) {
            int s = slot;
            due(states[s], x, y -> y.states(s));
        }
        refusedOutsideSlots(FOUR, (y, slot) -> y.begin(slot, 1));
    }

    @Sentence(of = "Promise 2", says = "`states`: 0 to 12")
    void promise2_states_is_0_to_12() {
        for (int states : row(0, 1, 11, 12)) {
            Bench x = made(FOUR);
            due(2, x, y -> y.begin(1, states));
            due(states, x, y -> y.states(1));
        }
        refusedOutside(0, 12, ARGUMENT, FOUR, (x, states) -> x.begin(1, states));
    }

    @Sentence(of = "Promise 2", says = "Returns the number of states that it had.")
    void promise2_returns_0_to_12() {
        due(0, SIZES, x -> x.begin(2, 12));
        due(1, SIZES, x -> x.begin(1, 12));
        due(12, SIZES, x -> x.begin(0, 12));
        due(12, SIZES, x -> x.begin(0, 0));
        due(0, SIZES, x -> x.begin(2, 0));
    }

    @Sentence(of = "Promise 2", says = "Throws `IndexOutOfBoundsException` if there is no such slot")
    void promise2_no_such_slot() {
        refusedOutsideSlots(NEW, (x, slot) -> x.begin(slot, 0));
        refusedOutsideSlots(FOUR, (x, slot) -> x.begin(slot, 12));
        refusedOutsideSlots(FOUR, (x, slot) -> x.begin(slot, 13));
        refusedOutsideSlots(FOUR, (x, slot) -> x.begin(slot, -1));
    }

    @Sentence(of = "Promise 2", says = "Throws `IllegalArgumentException` if states is out of range")
    void promise2_states_out_of_range() {
        for (int slot = 0; slot <= 3; slot++) {
            int s = slot;
            refusedOutside(0, 12, ARGUMENT, FOUR, (x, states) -> x.begin(s, states));
            refusedOutside(0, 12, ARGUMENT, NEW, (x, states) -> x.begin(s, states));
        }
    }

    // ---- Promise 3: setEnd

    @Sentence(of = "Promise 3", says = "Sets an initial or final number.")
    void promise3_sets_one_number() {
        for (int state : row(0, 11)) {
            for (boolean end : new boolean[] {false, true}) {
                Bench x = made(y -> y.begin(2, 12));
                x.setEnd(2, state, end, 10006);
                for (int i = 0; i < 12; i++) {
                    int s = i;
                    due(s == state && !end ? 10006 : 0, x, y -> y.end(2, s, false));
                    due(s == state && end ? 10006 : 0, x, y -> y.end(2, s, true));
                }
                x.setEnd(2, state, end, 0);
                x.undo();
                due(10006, x, y -> y.end(2, state, end));
            }
        }
    }

    @Sentence(of = "Promise 3", says = "Undoable.")
    void promise3_is_undoable() {
        undoable(THREE_STATES, 1, x -> x.setEnd(0, 2, true, 10006));
        undoable(THREE_STATES, 1, x -> x.setEnd(0, 0, false, x.end(0, 0, false)));
        undoable(FOUR, 4, x -> x.setEnd(3, 3, false, 7));
    }

    @Sentence(of = "Promise 3", says = "`slot`: 0 to 3")
    void promise3_slot_is_0_to_3() {
        due(1, FOUR, x -> x.setEnd(0, 0, false, 9));
        due(4, FOUR, x -> x.setEnd(3, 0, false, 9));
        Bench x = made(FOUR);
        x.setEnd(0, 0, false, 9);
        x.setEnd(3, 0, false, 10);
        int[] numbers = {9, 2, 3, 10};
        for (int slot = 0; slot <= 3; slot++) {
            int s = slot;
            due(numbers[s], x, y -> y.end(s, 0, false));
        }
        refusedOutsideSlots(FOUR, (y, slot) -> y.setEnd(slot, 0, false, 9));
    }

    @Sentence(of = "Promise 3", says = "`state`: a state")
    void promise3_state_is_a_state() {
        due(0, y -> y.begin(0, 12), x -> x.setEnd(0, 11, true, 5));
        due(1, FOUR, x -> x.setEnd(0, 0, true, 5));
        due(0, FOUR, x -> x.setEnd(3, 3, true, 5));
        refusedOutside(0, 11, INDEX, SIZES, (x, state) -> x.setEnd(0, state, true, 5));
        refusedOutside(0, 0, INDEX, SIZES, (x, state) -> x.setEnd(1, state, false, 5));
        refusedWith(INDEX, SIZES, (x, state) -> x.setEnd(2, state, false, 5), -1, 0, 1);
        refusedOutside(0, 4, INDEX, SIZES, (x, state) -> x.setEnd(3, state, true, 5));
    }

    @Sentence(of = "Promise 3", says = "`end`: true for the final number, false for the initial one")
    void promise3_end_is_true_for_the_final_number() {
        Bench x = made(y -> y.begin(1, 1));
        due(0, x, y -> y.setEnd(1, 0, true, 10006));
        due(0, x, y -> y.setEnd(1, 0, false, 3));
        due(10006, x, y -> y.end(1, 0, true));
        due(3, x, y -> y.end(1, 0, false));
        // The quotient by a changes the initial number alone.
        x.derive(1, 1, 3);
        due(0, x, y -> y.end(1, 0, false));
        due(10006, x, y -> y.end(1, 0, true));
    }

    @Sentence(of = "Promise 3", says = "`value`: 0 to 10006")
    void promise3_value_is_0_to_10006() {
        for (int value : row(0, 1, 10005, 10006)) {
            Bench x = made(FOUR);
            due(4, x, y -> y.setEnd(3, 0, false, value));
            due(value, x, y -> y.end(3, 0, false));
        }
        refusedOutside(0, 10006, ARGUMENT, FOUR, (x, value) -> x.setEnd(3, 0, false, value));
        refusedOutside(0, 10006, ARGUMENT, FOUR, (x, value) -> x.setEnd(3, 0, true, value));
    }

    @Sentence(of = "Promise 3", says = "Returns the previous number.")
    void promise3_returns_the_previous_number() {
        Bench x = made(y -> y.begin(0, 12));
        due(0, x, y -> y.setEnd(0, 11, true, 10006));
        due(10006, x, y -> y.setEnd(0, 11, true, 10006));
        due(10006, x, y -> y.setEnd(0, 11, true, 0));
        due(0, x, y -> y.setEnd(0, 11, true, 1));
        due(0, x, y -> y.setEnd(0, 11, false, 2));
        due(1, x, y -> y.setEnd(0, 11, true, 0));
    }

    @Sentence(of = "Promise 3", says = "Throws `IndexOutOfBoundsException` if there is no such slot or state")
    void promise3_no_such_slot_or_state() {
        refusedOutsideSlots(NEW, (x, slot) -> x.setEnd(slot, 0, true, 0));
        refusedOutsideSlots(FOUR, (x, slot) -> x.setEnd(slot, -1, true, 10007));
        refusedOutside(0, 2, INDEX, FOUR, (x, state) -> x.setEnd(2, state, true, 10006));
        refusedOutside(0, 2, INDEX, FOUR, (x, state) -> x.setEnd(2, state, false, 10007));
        refusedOutside(0, 2, INDEX, FOUR, (x, state) -> x.setEnd(2, state, false, -1));
    }

    @Sentence(of = "Promise 3", says = "Throws `IllegalArgumentException` if value is out of range")
    void promise3_value_out_of_range() {
        for (int slot = 0; slot <= 3; slot++) {
            int s = slot;
            refusedOutside(0, 10006, ARGUMENT, FOUR, (x, value) -> x.setEnd(s, 0, true, value));
            refusedOutside(0, 10006, ARGUMENT, FOUR, (x, value) -> x.setEnd(s, s, false, value));
        }
    }

    // ---- Promise 4: setStep

    @Sentence(of = "Promise 4", says = "Sets a number of a matrix.")
    void promise4_sets_one_number() {
        for (int letter : row(A, B)) {
            for (int corner = 0; corner < 4; corner++) {
                int from = corner / 2 * 11;
                int to = corner % 2 * 11;
                Bench x = made(y -> y.begin(1, 12));
                x.setStep(1, letter, from, to, 10006);
                for (int k = 0; k < 288; k++) {
                    int l = k / 144;
                    int i = k / 12 % 12;
                    int j = k % 12;
                    due(l == letter && i == from && j == to ? 10006 : 0, x, y -> y.step(1, l, i, j));
                }
            }
        }
    }

    @Sentence(of = "Promise 4", says = "Undoable.")
    void promise4_is_undoable() {
        undoable(THREE_STATES, 1, x -> x.setStep(0, B, 2, 0, 10006));
        undoable(THREE_STATES, 1, x -> x.setStep(0, A, 1, 2, x.step(0, A, 1, 2)));
        undoable(FOUR, 4, x -> x.setStep(3, A, 3, 3, 7));
    }

    @Sentence(of = "Promise 4", says = "`slot`: 0 to 3")
    void promise4_slot_is_0_to_3() {
        Script build = x -> {
            FOUR.run(x);
            x.setStep(0, A, 0, 0, 11);
            x.setStep(3, A, 0, 0, 12);
        };
        int[] numbers = {11, 2, 2, 12};
        for (int slot = 0; slot <= 3; slot++) {
            int s = slot;
            due(numbers[s], build, x -> x.setStep(s, A, 0, 0, 9));
        }
        refusedOutsideSlots(FOUR, (y, slot) -> y.setStep(slot, A, 0, 0, 9));
    }

    @Sentence(of = "Promise 4", says = "`letter`: 0 to 1")
    void promise4_letter_is_0_to_1() {
        due(2, FOUR, x -> x.setStep(2, 0, 0, 0, 9));
        due(3, FOUR, x -> x.setStep(2, 1, 0, 0, 9));
        refusedOutside(0, 1, INDEX, FOUR, (x, letter) -> x.setStep(2, letter, 0, 0, 9));
    }

    @Sentence(of = "Promise 4", says = "`from`: a state")
    void promise4_from_is_a_state() {
        due(0, y -> y.begin(0, 12), x -> x.setStep(0, A, 11, 0, 5));
        due(2, FOUR, x -> x.setStep(3, A, 0, 0, 5));
        due(0, FOUR, x -> x.setStep(3, A, 3, 0, 5));
        refusedOutside(0, 11, INDEX, SIZES, (x, from) -> x.setStep(0, B, from, 0, 5));
        refusedOutside(0, 0, INDEX, SIZES, (x, from) -> x.setStep(1, A, from, 0, 5));
        refusedWith(INDEX, SIZES, (x, from) -> x.setStep(2, A, from, 0, 5), -1, 0, 1);
        refusedOutside(0, 4, INDEX, SIZES, (x, from) -> x.setStep(3, B, from, 4, 5));
    }

    @Sentence(of = "Promise 4", says = "`to`: a state")
    void promise4_to_is_a_state() {
        due(0, y -> y.begin(0, 12), x -> x.setStep(0, A, 0, 11, 5));
        due(2, FOUR, x -> x.setStep(3, A, 0, 0, 5));
        due(0, FOUR, x -> x.setStep(3, A, 0, 3, 5));
        refusedOutside(0, 11, INDEX, SIZES, (x, to) -> x.setStep(0, B, 0, to, 5));
        refusedOutside(0, 0, INDEX, SIZES, (x, to) -> x.setStep(1, A, 0, to, 5));
        refusedWith(INDEX, SIZES, (x, to) -> x.setStep(2, A, 0, to, 5), -1, 0, 1);
        refusedOutside(0, 4, INDEX, SIZES, (x, to) -> x.setStep(3, B, 4, to, 5));
    }

    @Sentence(of = "Promise 4", says = "`value`: 0 to 10006")
    void promise4_value_is_0_to_10006() {
        for (int value : row(0, 1, 10005, 10006)) {
            Bench x = made(FOUR);
            due(3, x, y -> y.setStep(3, B, 0, 0, value));
            due(value, x, y -> y.step(3, B, 0, 0));
        }
        refusedOutside(0, 10006, ARGUMENT, FOUR, (x, value) -> x.setStep(3, A, 0, 0, value));
        refusedOutside(0, 10006, ARGUMENT, FOUR, (x, value) -> x.setStep(3, B, 3, 3, value));
    }

    @Sentence(of = "Promise 4", says = "Returns the previous number.")
    void promise4_returns_the_previous_number() {
        Bench x = made(y -> y.begin(0, 12));
        due(0, x, y -> y.setStep(0, A, 11, 11, 10006));
        due(10006, x, y -> y.setStep(0, A, 11, 11, 10006));
        due(10006, x, y -> y.setStep(0, A, 11, 11, 0));
        due(0, x, y -> y.setStep(0, A, 11, 11, 1));
        due(0, x, y -> y.setStep(0, B, 11, 11, 2));
        due(0, x, y -> y.setStep(0, A, 11, 10, 3));
        due(0, x, y -> y.setStep(0, A, 10, 11, 4));
        due(1, x, y -> y.setStep(0, A, 11, 11, 0));
    }

    @Sentence(of = "Promise 4", says = "Throws `IndexOutOfBoundsException` if there is no such slot, letter or state")
    void promise4_no_such_slot_letter_or_state() {
        refusedOutsideSlots(NEW, (x, slot) -> x.setStep(slot, A, 0, 0, 0));
        refusedOutsideSlots(FOUR, (x, slot) -> x.setStep(slot, 2, -1, -1, 10007));
        refusedOutside(0, 1, INDEX, FOUR, (x, letter) -> x.setStep(2, letter, 0, 0, 10007));
        refusedOutside(0, 1, INDEX, FOUR, (x, letter) -> x.setStep(2, letter, 3, 3, -1));
        refusedOutside(0, 2, INDEX, FOUR, (x, from) -> x.setStep(2, B, from, 0, 10007));
        refusedOutside(0, 2, INDEX, FOUR, (x, from) -> x.setStep(2, B, from, 3, -1));
        refusedOutside(0, 2, INDEX, FOUR, (x, to) -> x.setStep(2, B, 0, to, 10007));
        refusedOutside(0, 2, INDEX, FOUR, (x, to) -> x.setStep(2, B, 2, to, -1));
    }

    @Sentence(of = "Promise 4", says = "Throws `IllegalArgumentException` if value is out of range")
    void promise4_value_out_of_range() {
        for (int slot = 0; slot <= 3; slot++) {
            int s = slot;
            refusedOutside(0, 10006, ARGUMENT, FOUR, (x, value) -> x.setStep(s, A, 0, s, value));
            refusedOutside(0, 10006, ARGUMENT, FOUR, (x, value) -> x.setStep(s, B, s, 0, value));
        }
    }

    // ---- Promise 5: random

    /** The results of the first draws from a seed, by numbers without a bound. */
    private static int[] draws(int seed, int count) {
        int[] results = new int[count];
        BigInteger s = BigInteger.valueOf(seed);
        for (int k = 0; k < count; k++) {
            s = s.multiply(BigInteger.valueOf(1103515245)).add(BigInteger.valueOf(12345))
                    .mod(BigInteger.valueOf(2147483648L));
            results[k] = s.divide(BigInteger.valueOf(65536)).mod(BigInteger.valueOf(4)).intValue();
        }
        return results;
    }

    private void drawnInOrder(int states, int seed) {
        int[] due = draws(seed, 2 * states + 2 * states * states);
        Bench x = made(y -> y.random(1, states, seed));
        due(states, x, y -> y.states(1));
        int at = 0;
        for (int i = 0; i < states; i++) {
            int s = i;
            due(due[at++], x, y -> y.end(1, s, false));
            due(due[at++], x, y -> y.end(1, s, true));
        }
        for (int letter : row(A, B)) {
            for (int k = 0; k < states * states; k++) {
                int place = k;
                due(due[at++], x, y -> y.step(1, letter, place / states, place % states));
            }
        }
    }

    @Sentence(of = "Promise 5", says = "Makes a random automaton.")
    void promise5_makes_an_automaton_of_its_own() {
        // What the slot held before plays no part.
        Bench x = made(y -> y.random(0, 12, 7));
        x.random(0, 1, 1);
        x.random(0, 12, 999999);
        due(made(y -> {
            y.begin(0, 1);
            y.begin(0, 1);
            y.random(0, 12, 999999);
        }).digest(), x, y -> y.digest());
    }

    @Sentence(of = "Promise 5", says = "There is a number s, which is the seed at first; a draw makes it "
            + "(1103515245 * s + 12345) modulo 2147483648, and gives (s / 65536, rounded down) modulo 4.")
    void promise5_draws_do_not_overflow() {
        // The first draws of seed 0 make 12345, then 1406932606: their quotients are 0 and 21468, their results 0 and 0.
        Bench x = made(y -> y.random(0, 1, 0));
        due(0, x, y -> y.end(0, 0, false));
        due(0, x, y -> y.end(0, 0, true));
        for (int seed : row(0, 1, 2, 65535, 65536, 999998, 999999)) {
            drawnInOrder(3, seed);
        }
    }

    @Sentence(of = "Promise 5", says = "Each number of the automaton is the result of a draw, in this order: "
            + "for each state its initial and its final number; then for each letter, row by row, the matrix.")
    void promise5_numbers_in_their_order() {
        for (int states : row(0, 1, 2, 11, 12)) {
            drawnInOrder(states, 4711);
        }
    }

    @Sentence(of = "Promise 5", says = "Undoable.")
    void promise5_is_undoable() {
        undoable(NEW, 0, x -> x.random(0, 12, 999999));
        undoable(NEW, 0, x -> x.random(0, 0, 0));
        undoable(THREE_STATES, 1, x -> x.random(0, 3, 5));
        undoable(FOUR, 4, x -> x.random(3, 4, 0));
    }

    @Sentence(of = "Promise 5", says = "`slot`: 0 to 3")
    void promise5_slot_is_0_to_3() {
        Bench x = made(FOUR);
        x.random(0, 7, 1);
        x.random(3, 9, 1);
        int[] states = {7, 2, 3, 9};
        for (int slot = 0; slot <= 3; slot++) {
            int s = slot;
            due(states[s], x, y -> y.states(s));
        }
        refusedOutsideSlots(FOUR, (y, slot) -> y.random(slot, 1, 1));
    }

    @Sentence(of = "Promise 5", says = "`states`: 0 to 12")
    void promise5_states_is_0_to_12() {
        for (int states : row(0, 1, 11, 12)) {
            Bench x = made(FOUR);
            succeeds(FOUR, y -> y.random(1, states, 3));
            x.random(1, states, 3);
            due(states, x, y -> y.states(1));
        }
        refusedOutside(0, 12, ARGUMENT, FOUR, (x, states) -> x.random(1, states, 3));
    }

    @Sentence(of = "Promise 5", says = "`seed`: 0 to 999999")
    void promise5_seed_is_0_to_999999() {
        drawnInOrder(2, 0);
        drawnInOrder(2, 999999);
        refusedOutside(0, 999999, ARGUMENT, FOUR, (x, seed) -> x.random(1, 12, seed));
        refusedOutside(0, 999999, ARGUMENT, FOUR, (x, seed) -> x.random(1, 0, seed));
    }

    @Sentence(of = "Promise 5", says = "Returns the weight of the empty word.")
    void promise5_returns_the_weight_of_the_empty_word() {
        due(0, NEW, x -> x.random(0, 0, 999999));
        for (int seed : row(0, 1, 5, 123456, 999999)) {
            for (int states : row(1, 2, 12)) {
                int[] numbers = draws(seed, 2 * states);
                int weight = 0;
                for (int i = 0; i < states; i++) {
                    weight += numbers[2 * i] * numbers[2 * i + 1];
                }
                due(weight, FOUR, x -> x.random(2, states, seed));
            }
        }
    }

    @Sentence(of = "Promise 5", says = "Throws `IndexOutOfBoundsException` if there is no such slot")
    void promise5_no_such_slot() {
        refusedOutsideSlots(NEW, (x, slot) -> x.random(slot, 0, 0));
        refusedOutsideSlots(FOUR, (x, slot) -> x.random(slot, 12, 999999));
        refusedOutsideSlots(FOUR, (x, slot) -> x.random(slot, 13, 1000000));
        refusedOutsideSlots(FOUR, (x, slot) -> x.random(slot, -1, -1));
    }

    @Sentence(of = "Promise 5", says = "Throws `IllegalArgumentException` if states or seed is out of range")
    void promise5_states_or_seed_out_of_range() {
        for (int slot = 0; slot <= 3; slot++) {
            int s = slot;
            refusedOutside(0, 12, ARGUMENT, FOUR, (x, states) -> x.random(s, states, 0));
            refusedOutside(0, 999999, ARGUMENT, FOUR, (x, seed) -> x.random(s, 1, seed));
        }
        refused(ARGUMENT, FOUR, x -> x.random(3, 13, 1000000));
    }

    // ---- Promise 6: states

    @Sentence(of = "Promise 6", says = "Returns the number of states.")
    void promise6_returns_the_number_of_states() {
        for (int slot = 0; slot <= 3; slot++) {
            int s = slot;
            due(s + 1, FOUR, x -> x.states(s));
            changesNothing(FOUR, x -> x.states(s));
        }
    }

    @Sentence(of = "Promise 6", says = "`slot`: 0 to 3")
    void promise6_slot_is_0_to_3() {
        due(1, FOUR, x -> x.states(0));
        due(4, FOUR, x -> x.states(3));
        refusedOutsideSlots(FOUR, (x, slot) -> x.states(slot));
    }

    @Sentence(of = "Promise 6", says = "Returns 0 to 12.")
    void promise6_returns_0_to_12() {
        due(12, SIZES, x -> x.states(0));
        due(1, SIZES, x -> x.states(1));
        due(0, SIZES, x -> x.states(2));
        due(5, SIZES, x -> x.states(3));
    }

    @Sentence(of = "Promise 6", says = "Throws `IndexOutOfBoundsException` if there is no such slot")
    void promise6_no_such_slot() {
        refusedOutsideSlots(NEW, (x, slot) -> x.states(slot));
        refusedOutsideSlots(SIZES, (x, slot) -> x.states(slot));
    }

    // ---- Promise 7: end

    @Sentence(of = "Promise 7", says = "Returns an initial or final number.")
    void promise7_returns_a_number() {
        changesNothing(FOUR, x -> x.end(3, 3, true));
        due(4, FOUR, x -> x.end(3, 0, false));
        due(1, FOUR, x -> x.end(3, 0, true));
    }

    @Sentence(of = "Promise 7", says = "`slot`: 0 to 3")
    void promise7_slot_is_0_to_3() {
        due(1, FOUR, x -> x.end(0, 0, false));
        due(4, FOUR, x -> x.end(3, 0, false));
        refusedOutsideSlots(FOUR, (x, slot) -> x.end(slot, 0, false));
    }

    @Sentence(of = "Promise 7", says = "`state`: a state")
    void promise7_state_is_a_state() {
        Script build = x -> {
            SIZES.run(x);
            x.setEnd(0, 0, true, 100);
            x.setEnd(0, 11, true, 111);
            x.setEnd(3, 4, false, 104);
        };
        due(100, build, x -> x.end(0, 0, true));
        due(111, build, x -> x.end(0, 11, true));
        due(104, build, x -> x.end(3, 4, false));
        refusedOutside(0, 11, INDEX, build, (x, state) -> x.end(0, state, true));
        refusedOutside(0, 0, INDEX, build, (x, state) -> x.end(1, state, false));
        refusedWith(INDEX, build, (x, state) -> x.end(2, state, false), -1, 0, 1);
        refusedOutside(0, 4, INDEX, build, (x, state) -> x.end(3, state, false));
    }

    @Sentence(of = "Promise 7", says = "`end`: true for the final number, false for the initial one")
    void promise7_end_is_true_for_the_final_number() {
        Script build = x -> one(x, 0, 21, 22, 23, 24);
        due(21, build, x -> x.end(0, 0, false));
        due(22, build, x -> x.end(0, 0, true));
    }

    @Sentence(of = "Promise 7", says = "Returns that number.")
    void promise7_returns_0_to_10006() {
        for (int value : row(0, 1, 10006)) {
            due(value, y -> one(y, 3, value, 5, 5, 5), x -> x.end(3, 0, false));
            due(value, y -> one(y, 3, 5, value, 5, 5), x -> x.end(3, 0, true));
        }
    }

    @Sentence(of = "Promise 7", says = "Throws `IndexOutOfBoundsException` if there is no such slot or state")
    void promise7_no_such_slot_or_state() {
        refusedOutsideSlots(NEW, (x, slot) -> x.end(slot, 0, true));
        refusedOutsideSlots(FOUR, (x, slot) -> x.end(slot, -1, true));
        for (int slot = 0; slot <= 3; slot++) {
            int s = slot;
            refusedOutside(0, s, INDEX, FOUR, (x, state) -> x.end(s, state, true));
            refused(INDEX, NEW, x -> x.end(s, 0, false));
        }
    }

    // ---- Promise 8: step

    @Sentence(of = "Promise 8", says = "Returns a number of a matrix.")
    void promise8_returns_a_number() {
        changesNothing(FOUR, x -> x.step(3, B, 3, 3));
        due(2, FOUR, x -> x.step(3, A, 0, 0));
        due(3, FOUR, x -> x.step(3, B, 0, 0));
    }

    @Sentence(of = "Promise 8", says = "`slot`: 0 to 3")
    void promise8_slot_is_0_to_3() {
        Script build = x -> {
            FOUR.run(x);
            x.setStep(0, A, 0, 0, 11);
            x.setStep(3, A, 0, 0, 12);
        };
        due(11, build, x -> x.step(0, A, 0, 0));
        due(2, build, x -> x.step(1, A, 0, 0));
        due(12, build, x -> x.step(3, A, 0, 0));
        refusedOutsideSlots(build, (x, slot) -> x.step(slot, A, 0, 0));
    }

    @Sentence(of = "Promise 8", says = "`letter`: 0 to 1")
    void promise8_letter_is_0_to_1() {
        due(2, FOUR, x -> x.step(2, 0, 0, 0));
        due(3, FOUR, x -> x.step(2, 1, 0, 0));
        refusedOutside(0, 1, INDEX, FOUR, (x, letter) -> x.step(2, letter, 0, 0));
    }

    /** The corners of both matrices of slot 0, of 12 states, are set. */
    private static final Script CORNERS = x -> {
        SIZES.run(x);
        x.setStep(0, A, 0, 0, 101);
        x.setStep(0, A, 0, 11, 102);
        x.setStep(0, A, 11, 0, 103);
        x.setStep(0, A, 11, 11, 104);
        x.setStep(0, B, 0, 11, 202);
        x.setStep(0, B, 11, 0, 203);
    };

    @Sentence(of = "Promise 8", says = "`from`: a state")
    void promise8_from_is_a_state() {
        due(101, CORNERS, x -> x.step(0, A, 0, 0));
        due(103, CORNERS, x -> x.step(0, A, 11, 0));
        due(203, CORNERS, x -> x.step(0, B, 11, 0));
        refusedOutside(0, 11, INDEX, CORNERS, (x, from) -> x.step(0, A, from, 0));
        refusedOutside(0, 0, INDEX, CORNERS, (x, from) -> x.step(1, A, from, 0));
        refusedWith(INDEX, CORNERS, (x, from) -> x.step(2, B, from, 0), -1, 0, 1);
        refusedOutside(0, 4, INDEX, CORNERS, (x, from) -> x.step(3, B, from, 4));
    }

    @Sentence(of = "Promise 8", says = "`to`: a state")
    void promise8_to_is_a_state() {
        due(102, CORNERS, x -> x.step(0, A, 0, 11));
        due(104, CORNERS, x -> x.step(0, A, 11, 11));
        due(202, CORNERS, x -> x.step(0, B, 0, 11));
        refusedOutside(0, 11, INDEX, CORNERS, (x, to) -> x.step(0, A, 0, to));
        refusedOutside(0, 0, INDEX, CORNERS, (x, to) -> x.step(1, A, 0, to));
        refusedWith(INDEX, CORNERS, (x, to) -> x.step(2, B, 0, to), -1, 0, 1);
        refusedOutside(0, 4, INDEX, CORNERS, (x, to) -> x.step(3, B, 4, to));
    }

    @Sentence(of = "Promise 8", says = "Returns that number.")
    void promise8_returns_0_to_10006() {
        for (int value : row(0, 1, 10006)) {
            due(value, y -> one(y, 3, 5, 5, value, 5), x -> x.step(3, A, 0, 0));
            due(value, y -> one(y, 3, 5, 5, 5, value), x -> x.step(3, B, 0, 0));
        }
    }

    @Sentence(of = "Promise 8", says = "Throws `IndexOutOfBoundsException` if there is no such slot, letter or state")
    void promise8_no_such_slot_letter_or_state() {
        refusedOutsideSlots(NEW, (x, slot) -> x.step(slot, A, 0, 0));
        refusedOutsideSlots(FOUR, (x, slot) -> x.step(slot, -1, -1, -1));
        for (int slot = 0; slot <= 3; slot++) {
            int s = slot;
            refusedOutside(0, 1, INDEX, FOUR, (x, letter) -> x.step(s, letter, 0, 0));
            refusedOutside(0, s, INDEX, FOUR, (x, from) -> x.step(s, A, from, 0));
            refusedOutside(0, s, INDEX, FOUR, (x, to) -> x.step(s, B, 0, to));
            refused(INDEX, NEW, x -> x.step(s, A, 0, 0));
        }
    }
}

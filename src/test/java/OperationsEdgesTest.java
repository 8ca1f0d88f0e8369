/** Promises 14 to 16, sentence by sentence: the last value that is allowed and the first that isn't. */
public final class OperationsEdgesTest extends Edges {
    public static void main(String[] args) {
        new OperationsEdgesTest().run();
    }

    private static final int SUM = 0;
    private static final int HADAMARD = 1;
    private static final int CAUCHY = 2;
    private static final int COPY = 0;
    private static final int STAR = 2;

    /** Slots 0, 1 and 2 have the given numbers of states, slot 3 has 2; the text is a*. */
    private static Script sizes(int first, int second, int third) {
        return x -> {
            x.random(0, first, 1);
            x.random(1, second, 2);
            x.random(2, third, 3);
            x.random(3, 2, 4);
            write(x, "a*");
        };
    }

    // ---- Promise 14: combine

    @Sentence(of = "Promise 14", says = "Combines two automata.")
    void promise14_changes_one_slot_alone() {
        for (int kind : row(SUM, HADAMARD, CAUCHY)) {
            Bench x = made(FOUR);
            x.combine(2, 0, 1, kind);
            due(1, x, y -> y.states(0));
            due(2, x, y -> y.states(1));
            due(4, x, y -> y.states(3));
            x.combine(2, 3, 3, SUM);
            due(8, x, y -> y.states(2));
            due(3, x, y -> y.undo());
        }
    }

    @Sentence(of = "Promise 14", says = "Combines two automata.")
    void promise14_the_result_may_take_the_place_of_its_parts() {
        Script build = x -> {
            one(x, 0, 2, 3, 5, 7);
            one(x, 1, 11, 13, 17, 19);
        };
        // The products: initial 22, final 39, by a 85, by b 133.
        for (int to : row(0, 1, 2)) {
            Bench x = made(build);
            due(1, x, y -> y.combine(to, 0, 1, HADAMARD));
            holdsOne(x, to, 22, 39, 85, 133);
        }
        Bench itself = made(build);
        due(1, itself, y -> y.combine(0, 0, 0, HADAMARD));
        holdsOne(itself, 0, 4, 9, 25, 49);
        // The empty words weigh 6 and 143; by a 5 * 3 and then 11, by b 7 * 3 and then 11.
        for (int to : row(0, 1, 2)) {
            Bench x = made(build);
            due(2, x, y -> y.combine(to, 0, 1, CAUCHY));
            holds(x, to, row(2, 66), row(429, 13), matrix(row(5, 165), row(0, 17)), matrix(row(7, 231), row(0, 19)));
            Bench y = made(build);
            due(2, y, z -> z.combine(to, 0, 1, SUM));
            holds(y, to, row(2, 11), row(3, 13), matrix(row(5, 0), row(0, 17)), matrix(row(7, 0), row(0, 19)));
        }
        Bench twice = made(build);
        due(2, twice, y -> y.combine(0, 0, 0, CAUCHY));
        holds(twice, 0, row(2, 12), row(18, 3), matrix(row(5, 30), row(0, 5)), matrix(row(7, 42), row(0, 7)));
    }

    @Sentence(of = "Promise 14", says = "Undoable.")
    void promise14_is_undoable() {
        for (int kind : row(SUM, HADAMARD, CAUCHY)) {
            undoable(THREE_STATES, 1, x -> x.combine(0, 0, 0, kind));
            undoable(NEW, 0, x -> x.combine(0, 1, 2, kind));
            undoable(FOUR, 4, x -> x.combine(3, 0, 1, kind));
        }
        undoable(THREE_STATES, 1, x -> x.combine(0, 0, 1, SUM));
    }

    @Sentence(of = "Promise 14", says = "`to`: 0 to 3, the slot that gets the result")
    void promise14_to_is_0_to_3() {
        for (int to : row(0, 3)) {
            Bench x = made(FOUR);
            due(5, x, y -> y.combine(to, 1, 2, SUM));
            for (int slot = 0; slot <= 3; slot++) {
                int s = slot;
                due(s == to ? 5 : s + 1, x, y -> y.states(s));
            }
        }
        refusedOutsideSlots(FOUR, (x, to) -> x.combine(to, 1, 2, SUM));
    }

    @Sentence(of = "Promise 14", says = "`x`: 0 to 3")
    void promise14_x_is_0_to_3() {
        for (int slot : row(0, 3)) {
            Bench x = made(FOUR);
            due(slot + 4, x, y -> y.combine(1, slot, 2, SUM));
            // The states of x come first.
            due(slot + 1, x, y -> y.end(1, 0, false));
            due(3, x, y -> y.end(1, slot + 1, false));
        }
        refusedOutsideSlots(FOUR, (x, slot) -> x.combine(1, slot, 2, SUM));
    }

    @Sentence(of = "Promise 14", says = "`y`: 0 to 3")
    void promise14_y_is_0_to_3() {
        for (int slot : row(0, 3)) {
            Bench x = made(FOUR);
            due(slot + 4, x, y -> y.combine(1, 2, slot, SUM));
            due(3, x, y -> y.end(1, 0, false));
            due(slot + 1, x, y -> y.end(1, 3, false));
        }
        refusedOutsideSlots(FOUR, (x, slot) -> x.combine(1, 2, slot, SUM));
    }

    @Sentence(of = "Promise 14", says = "`kind`: 0 sum, 1 Hadamard product, 2 Cauchy product")
    void promise14_kind_is_0_to_2() {
        // The word a weighs 4 in slot 1, 6 in slot 2; nothing weighs 2 and 3.
        int[] empty = {5, 6, 12};
        int[] ofA = {10, 24, 36};
        for (int kind = 0; kind <= 2; kind++) {
            Bench x = made(FOUR);
            x.combine(0, 1, 2, kind);
            due(empty[kind], x, y -> y.weight(0, 0));
            due(ofA[kind], x, y -> y.weight(0, 1));
        }
        refusedOutside(0, 2, ARGUMENT, FOUR, (x, kind) -> x.combine(0, 1, 2, kind));
    }

    @Sentence(of = "Promise 14", says = "Returns the number of states of the result.")
    void promise14_returns_0_to_12() {
        for (int kind : row(SUM, HADAMARD, CAUCHY)) {
            due(0, NEW, x -> x.combine(0, 1, 2, kind));
            due(12, sizes(kind == HADAMARD ? 3 : 8, 4, 0), x -> x.combine(3, 0, 1, kind));
            due(12, sizes(12, 0, 1), x -> x.combine(3, 0, kind == HADAMARD ? 2 : 1, kind));
            due(12, sizes(0, 1, 12), x -> x.combine(3, kind == HADAMARD ? 1 : 0, 2, kind));
            due(kind == HADAMARD ? 0 : 12, sizes(12, 0, 1), x -> x.combine(3, 1, 0, kind));
        }
        due(1, sizes(1, 1, 0), x -> x.combine(3, 0, 1, HADAMARD));
    }

    @Sentence(of = "Promise 14", says = "Throws `IndexOutOfBoundsException` if there is no such slot")
    void promise14_no_such_slot() {
        Script build = sizes(7, 6, 12);
        for (int kind : row(SUM, HADAMARD, CAUCHY, -1, 3)) {
            refusedOutsideSlots(build, (x, slot) -> x.combine(slot, 0, 1, kind));
            refusedOutsideSlots(build, (x, slot) -> x.combine(0, slot, 1, kind));
            refusedOutsideSlots(build, (x, slot) -> x.combine(0, 1, slot, kind));
            refusedOutsideSlots(NEW, (x, slot) -> x.combine(slot, slot, slot, kind));
        }
    }

    @Sentence(of = "Promise 14", says = "Throws `IllegalArgumentException` if kind is out of range")
    void promise14_kind_out_of_range() {
        refusedOutside(0, 2, ARGUMENT, NEW, (x, kind) -> x.combine(3, 0, 0, kind));
        // Here a result of each kind would have too many states, too.
        refusedOutside(0, 2, ARGUMENT, sizes(7, 6, 12), (x, kind) -> x.combine(3, 0, 1, kind));
        refusedOutside(0, 2, ARGUMENT, sizes(12, 12, 12), (x, kind) -> x.combine(0, 1, 2, kind));
    }

    @Sentence(of = "Promise 14", says = "Throws `IllegalStateException` if the result would have more than 12 states")
    void promise14_more_than_12_states() {
        for (int kind : row(SUM, CAUCHY)) {
            due(12, sizes(6, 6, 0), x -> x.combine(3, 0, 1, kind));
            due(12, sizes(1, 11, 0), x -> x.combine(1, 0, 1, kind));
            refused(STATE, sizes(6, 7, 0), x -> x.combine(3, 0, 1, kind));
            refused(STATE, sizes(6, 7, 0), x -> x.combine(3, 1, 0, kind));
            refused(STATE, sizes(12, 1, 0), x -> x.combine(0, 0, 1, kind));
            refused(STATE, sizes(1, 12, 0), x -> x.combine(1, 0, 1, kind));
            refused(STATE, sizes(12, 12, 0), x -> x.combine(3, 0, 1, kind));
            refused(STATE, sizes(7, 0, 0), x -> x.combine(0, 0, 0, kind));
        }
        due(12, sizes(2, 6, 0), x -> x.combine(3, 0, 1, HADAMARD));
        due(12, sizes(12, 1, 0), x -> x.combine(3, 1, 0, HADAMARD));
        due(9, sizes(3, 0, 0), x -> x.combine(0, 0, 0, HADAMARD));
        // 13 is no product of two numbers of states: 14 is the next number after 12.
        refused(STATE, sizes(2, 7, 0), x -> x.combine(3, 0, 1, HADAMARD));
        refused(STATE, sizes(2, 7, 0), x -> x.combine(3, 1, 0, HADAMARD));
        refused(STATE, sizes(3, 5, 0), x -> x.combine(3, 0, 1, HADAMARD));
        refused(STATE, sizes(4, 0, 0), x -> x.combine(0, 0, 0, HADAMARD));
        refused(STATE, sizes(12, 12, 0), x -> x.combine(3, 0, 1, HADAMARD));
        refused(STATE, sizes(12, 2, 0), x -> x.combine(3, 0, 1, HADAMARD));
    }

    // ---- Promise 15: derive

    @Sentence(of = "Promise 15", says = "Makes an automaton from another one.")
    void promise15_changes_one_slot_alone() {
        for (int kind : row(0, 1, 3, 4, 5, 6)) {
            Bench x = made(FOUR);
            x.derive(0, 3, kind);
            // The other one stays as it is, and is no part of the new one.
            x.setEnd(0, 0, false, 10006);
            x.setStep(0, A, 0, 0, 10006);
            due(4, x, y -> y.states(3));
            due(4, x, y -> y.end(3, 0, false));
            due(2, x, y -> y.step(3, A, 0, 0));
            due(2, x, y -> y.states(1));
            due(3, x, y -> y.states(2));
        }
    }

    @Sentence(of = "Promise 15", says = "Makes an automaton from another one.")
    void promise15_the_result_may_take_the_place_of_its_source() {
        // Initial (1, 2), final (10005, 1), so that the empty word weighs 10007, which is 0.
        Script build = x -> make(x, 0, row(1, 2), row(10005, 1), matrix(row(3, 4), row(5, 6)),
                matrix(row(0, 7), row(8, 0)));
        for (int kind = 0; kind <= 6; kind++) {
            int k = kind;
            Bench elsewhere = made(build);
            elsewhere.derive(1, 0, kind);
            elsewhere.derive(0, 1, COPY);
            elsewhere.begin(1, 0);
            Bench inPlace = made(build);
            inPlace.begin(1, 0);
            inPlace.begin(1, 0);
            due(elsewhere.states(0), inPlace, x -> x.derive(0, 0, k));
            due(elsewhere.digest(), inPlace, x -> x.digest());
        }
        // The quotient by a: (1 * 3 + 2 * 5, 1 * 4 + 2 * 6) = (13, 16).
        Bench x = made(build);
        x.derive(0, 0, 3);
        due(13, x, y -> y.end(0, 0, false));
        due(16, x, y -> y.end(0, 1, false));
    }

    @Sentence(of = "Promise 15", says = "Undoable.")
    void promise15_is_undoable() {
        for (int kind : row(0, 1, 3, 4, 5, 6)) {
            undoable(THREE_STATES, 1, x -> x.derive(0, 0, kind));
            undoable(THREE_STATES, 1, x -> x.derive(3, 0, kind));
            undoable(NEW, 0, x -> x.derive(3, 3, kind));
            undoable(FOUR, 4, x -> x.derive(3, 2, kind));
        }
        undoable(NEW, 0, x -> x.derive(3, 3, STAR));
        undoable(x -> x.begin(0, 11), 1, x -> x.derive(0, 0, STAR));
    }

    @Sentence(of = "Promise 15", says = "`to`: 0 to 3, the slot that gets the result")
    void promise15_to_is_0_to_3() {
        for (int to : row(0, 3)) {
            Bench x = made(FOUR);
            due(2, x, y -> y.derive(to, 1, COPY));
            for (int slot = 0; slot <= 3; slot++) {
                int s = slot;
                due(s == to ? 2 : s + 1, x, y -> y.states(s));
            }
        }
        refusedOutsideSlots(FOUR, (x, to) -> x.derive(to, 1, COPY));
    }

    @Sentence(of = "Promise 15", says = "`x`: 0 to 3")
    void promise15_x_is_0_to_3() {
        for (int slot = 0; slot <= 3; slot++) {
            int s = slot;
            due(s + 1, FOUR, x -> x.derive(1, s, COPY));
        }
        refusedOutsideSlots(FOUR, (x, slot) -> x.derive(1, slot, COPY));
    }

    @Sentence(of = "Promise 15", says = "`kind`: 0 a copy, 1 the reversal, 2 the star, 3 the quotient by a, "
            + "4 the quotient by b, 5 the forward reduction, 6 the minimal one")
    void promise15_kind_is_0_to_6() {
        // ab weighs 5, and nothing else does; state 3 is idle.
        Script build = x -> {
            x.begin(1, 4);
            x.setEnd(1, 0, false, 1);
            x.setStep(1, A, 0, 1, 1);
            x.setStep(1, B, 1, 2, 1);
            x.setEnd(1, 2, true, 5);
        };
        int[] states = {4, 4, 5, 4, 4, 3, 3};
        int[] first = {4, 5, 0, 2, NONE, 4, 4};
        for (int kind = 0; kind <= 6; kind++) {
            int k = kind;
            Bench x = made(build);
            due(states[k], x, y -> y.derive(2, 1, k));
            due(first[k], x, y -> y.first(2));
        }
        // The star: ab weighs 5, abab 25. The forward reduction starts with (1, 0, 0), the minimal one ends with it.
        Bench x = made(build);
        x.derive(2, 1, STAR);
        due(25, x, y -> y.weight(2, 20));
        x.derive(2, 1, 5);
        due(1, x, y -> y.end(2, 0, false));
        due(5, x, y -> y.end(2, 2, true));
        x.derive(2, 1, 6);
        due(5, x, y -> y.end(2, 2, false));
        due(1, x, y -> y.end(2, 0, true));
        refusedOutside(0, 6, ARGUMENT, build, (y, kind) -> y.derive(2, 1, kind));
    }

    @Sentence(of = "Promise 15", says = "Returns the number of states of the result.")
    void promise15_returns_0_to_12() {
        for (int kind : row(0, 1, 3, 4, 5, 6)) {
            due(0, NEW, x -> x.derive(0, 3, kind));
        }
        for (int kind : row(0, 1, 3, 4, 5, 6)) {
            due(12, x -> chain(x, 0, 12, A), x -> x.derive(3, 0, kind));
        }
        due(1, NEW, x -> x.derive(0, 3, STAR));
        due(12, x -> x.begin(0, 11), x -> x.derive(0, 0, STAR));
        due(0, x -> x.begin(0, 12), x -> x.derive(0, 0, 5));
        due(0, x -> x.begin(0, 12), x -> x.derive(0, 0, 6));
        due(12, x -> x.begin(0, 12), x -> x.derive(0, 0, 3));
    }

    @Sentence(of = "Promise 15", says = "Throws `IndexOutOfBoundsException` if there is no such slot")
    void promise15_no_such_slot() {
        for (int kind = -1; kind <= 7; kind++) {
            int k = kind;
            refusedOutsideSlots(FOUR, (x, slot) -> x.derive(slot, 0, k));
            refusedOutsideSlots(FOUR, (x, slot) -> x.derive(0, slot, k));
            refusedOutsideSlots(NEW, (x, slot) -> x.derive(slot, slot, k));
        }
    }

    @Sentence(of = "Promise 15", says = "Throws `IllegalArgumentException` if kind is out of range")
    void promise15_kind_out_of_range() {
        refusedOutside(0, 6, ARGUMENT, NEW, (x, kind) -> x.derive(3, 0, kind));
        refusedOutside(0, 6, ARGUMENT, FOUR, (x, kind) -> x.derive(0, 3, kind));
        refusedOutside(0, 6, ARGUMENT, sizes(12, 12, 12), (x, kind) -> x.derive(3, 0, kind));
    }

    @Sentence(of = "Promise 15", says = "Throws `IllegalStateException` if kind is 2, and the weight of the empty word "
            + "is not 0 or the result would have more than 12 states")
    void promise15_no_star() {
        due(12, x -> x.begin(0, 11), x -> x.derive(3, 0, STAR));
        refused(STATE, x -> x.begin(0, 12), x -> x.derive(3, 0, STAR));
        refused(STATE, x -> x.begin(0, 12), x -> x.derive(0, 0, STAR));
        // Numbers that wrap around to 0, and the ones beside it.
        due(3, x -> make(x, 0, row(1, 2), row(10005, 1), new int[2][2], new int[2][2]), x -> x.derive(3, 0, STAR));
        refused(STATE, x -> make(x, 0, row(1, 2), row(10006, 1), new int[2][2], new int[2][2]),
                x -> x.derive(3, 0, STAR));
        refused(STATE, x -> make(x, 0, row(1, 2), row(10004, 1), new int[2][2], new int[2][2]),
                x -> x.derive(3, 0, STAR));
        refused(STATE, x -> one(x, 0, 1, 1, 0, 0), x -> x.derive(0, 0, STAR));
        refused(STATE, x -> one(x, 0, 10006, 1, 0, 0), x -> x.derive(0, 0, STAR));
        due(2, x -> one(x, 0, 0, 1, 5, 5), x -> x.derive(0, 0, STAR));
        due(2, x -> one(x, 0, 1, 0, 5, 5), x -> x.derive(0, 0, STAR));
        // Both at once; and neither matters to another kind.
        Script both = x -> {
            x.begin(0, 12);
            fill(x, 0, 1, 1, 1, 1);
        };
        refused(STATE, both, x -> x.derive(3, 0, STAR));
        for (int kind : row(0, 1, 3, 4, 5, 6)) {
            due(kind < 5 ? 12 : 1, both, x -> x.derive(3, 0, kind));
        }
    }

    // ---- Promise 16: scale

    @Sentence(of = "Promise 16", says = "Multiplies a series with a number (the initial numbers are multiplied).")
    void promise16_initial_numbers_alone() {
        Bench x = made(y -> make(y, 1, row(10006, 5003), row(4, 5), matrix(row(6, 7), row(8, 9)),
                matrix(row(10, 11), row(12, 13))));
        x.scale(1, 2);
        holds(x, 1, row(10005, 10006), row(4, 5), matrix(row(6, 7), row(8, 9)), matrix(row(10, 11), row(12, 13)));
        Bench all = made(y -> y.begin(0, 12));
        for (int state : row(0, 11)) {
            all.setEnd(0, state, false, 3);
            all.setEnd(0, state, true, 3);
        }
        due(36, all, y -> y.scale(0, 2));
        due(6, all, y -> y.end(0, 0, false));
        due(6, all, y -> y.end(0, 11, false));
        due(3, all, y -> y.end(0, 11, true));
    }

    @Sentence(of = "Promise 16", says = "Undoable.")
    void promise16_is_undoable() {
        undoable(THREE_STATES, 1, x -> x.scale(0, 0));
        undoable(THREE_STATES, 1, x -> x.scale(0, 1));
        undoable(THREE_STATES, 1, x -> x.scale(0, 10006));
        undoable(NEW, 0, x -> x.scale(0, 10006));
        undoable(FOUR, 4, x -> x.scale(3, 2));
    }

    @Sentence(of = "Promise 16", says = "`slot`: 0 to 3")
    void promise16_slot_is_0_to_3() {
        for (int slot = 0; slot <= 3; slot++) {
            int s = slot;
            Bench x = made(FOUR);
            due(5 * (s + 1), x, y -> y.scale(s, 5));
            for (int other = 0; other <= 3; other++) {
                int o = other;
                due(o == s ? 5 * (o + 1) : o + 1, x, y -> y.weight(o, 0));
            }
        }
        refusedOutsideSlots(FOUR, (x, slot) -> x.scale(slot, 5));
    }

    @Sentence(of = "Promise 16", says = "`factor`: 0 to 10006")
    void promise16_factor_is_0_to_10006() {
        due(0, FOUR, x -> x.scale(3, 0));
        due(4, FOUR, x -> x.scale(3, 1));
        due(10007 - 8, FOUR, x -> x.scale(3, 10005));
        due(10007 - 4, FOUR, x -> x.scale(3, 10006));
        refusedOutside(0, 10006, ARGUMENT, FOUR, (x, factor) -> x.scale(3, factor));
    }

    @Sentence(of = "Promise 16", says = "Returns the weight of the empty word then.")
    void promise16_returns_0_to_10006() {
        due(10006, x -> one(x, 0, 1, 1, 0, 0), x -> x.scale(0, 10006));
        due(1, x -> one(x, 0, 10006, 1, 0, 0), x -> x.scale(0, 10006));
        due(10006, x -> one(x, 0, 5003, 1, 0, 0), x -> x.scale(0, 2));
        due(1, x -> one(x, 0, 5004, 1, 0, 0), x -> x.scale(0, 2));
        due(0, x -> make(x, 0, row(1, 1), row(1, 10006), new int[2][2], new int[2][2]), x -> x.scale(0, 5));
        due(0, NEW, x -> x.scale(0, 10006));
        due(0, x -> x.begin(0, 12), x -> x.scale(0, 10006));
    }

    @Sentence(of = "Promise 16", says = "Throws `IndexOutOfBoundsException` if there is no such slot")
    void promise16_no_such_slot() {
        refusedOutsideSlots(NEW, (x, slot) -> x.scale(slot, 0));
        refusedOutsideSlots(FOUR, (x, slot) -> x.scale(slot, 10007));
        refusedOutsideSlots(FOUR, (x, slot) -> x.scale(slot, -1));
    }

    @Sentence(of = "Promise 16", says = "Throws `IllegalArgumentException` if factor is out of range")
    void promise16_factor_out_of_range() {
        for (int slot = 0; slot <= 3; slot++) {
            int s = slot;
            refusedOutside(0, 10006, ARGUMENT, FOUR, (x, factor) -> x.scale(s, factor));
            refusedOutside(0, 10006, ARGUMENT, NEW, (x, factor) -> x.scale(s, factor));
        }
    }
}

/** Promises 17 to 22, sentence by sentence: the last value that is allowed and the first that isn't. */
public final class SpacesEdgesTest extends Edges {
    public static void main(String[] args) {
        new SpacesEdgesTest().run();
    }

    private static final int FORWARD = 0;
    private static final int BACKWARD = 1;
    private static final int MINIMAL = 2;

    /** A row of 12 states joined by b, that starts in one state and ends in another. */
    private static Script rowOf12(int start, int last) {
        return x -> {
            chain(x, 0, 12, B);
            x.setEnd(0, 0, false, 0);
            x.setEnd(0, 11, true, 0);
            x.setEnd(0, start, false, 1);
            x.setEnd(0, last, true, 1);
        };
    }

    private void dimensions(Script build, int forward, int backward, int minimal) {
        due(forward, build, x -> x.dimension(0, FORWARD));
        due(backward, build, x -> x.dimension(0, BACKWARD));
        due(minimal, build, x -> x.dimension(0, MINIMAL));
    }

    // ---- Promise 17: dimension

    @Sentence(of = "Promise 17", says = "Returns the dimension of the forward space (the number of states of the forward "
            + "reduction), of the backward space (that of the forward reduction of the reversal), "
            + "or of the minimal automaton.")
    void promise17_three_dimensions() {
        dimensions(rowOf12(0, 11), 12, 12, 12);
        dimensions(rowOf12(0, 0), 12, 1, 1);
        dimensions(rowOf12(11, 11), 1, 12, 1);
        dimensions(rowOf12(1, 11), 11, 12, 11);
        dimensions(rowOf12(0, 10), 12, 11, 11);
        dimensions(rowOf12(5, 8), 7, 9, 4);
        dimensions(rowOf12(8, 5), 4, 6, 0);
        for (int kind = 0; kind <= 2; kind++) {
            int k = kind;
            changesNothing(FOUR, x -> x.dimension(3, k));
        }
    }

    @Sentence(of = "Promise 17", says = "`slot`: 0 to 3")
    void promise17_slot_is_0_to_3() {
        Script build = x -> {
            chain(x, 0, 2, A);
            chain(x, 1, 3, A);
            chain(x, 3, 4, B);
        };
        int[] states = {2, 3, 0, 4};
        for (int slot = 0; slot <= 3; slot++) {
            for (int kind = 0; kind <= 2; kind++) {
                int s = slot;
                int k = kind;
                due(states[s], build, x -> x.dimension(s, k));
            }
        }
        refusedOutsideSlots(build, (x, slot) -> x.dimension(slot, MINIMAL));
    }

    @Sentence(of = "Promise 17", says = "`kind`: 0 forward, 1 backward, 2 minimal")
    void promise17_kind_is_0_to_2() {
        due(7, rowOf12(5, 8), x -> x.dimension(0, 0));
        due(9, rowOf12(5, 8), x -> x.dimension(0, 1));
        due(4, rowOf12(5, 8), x -> x.dimension(0, 2));
        refusedOutside(0, 2, ARGUMENT, FOUR, (x, kind) -> x.dimension(3, kind));
    }

    @Sentence(of = "Promise 17", says = "Returns the dimension.")
    void promise17_returns_0_to_12() {
        dimensions(NEW, 0, 0, 0);
        dimensions(x -> x.begin(0, 12), 0, 0, 0);
        dimensions(x -> one(x, 0, 1, 0, 1, 1), 1, 0, 0);
        dimensions(x -> one(x, 0, 0, 1, 1, 1), 0, 1, 0);
        dimensions(x -> one(x, 0, 1, 1, 0, 0), 1, 1, 1);
        dimensions(x -> one(x, 0, 10006, 10006, 0, 0), 1, 1, 1);
        dimensions(rowOf12(0, 11), 12, 12, 12);
        dimensions(rowOf12(11, 0), 1, 1, 0);
    }

    @Sentence(of = "Promise 17", says = "Throws `IndexOutOfBoundsException` if there is no such slot")
    void promise17_no_such_slot() {
        for (int kind = -1; kind <= 3; kind++) {
            int k = kind;
            refusedOutsideSlots(NEW, (x, slot) -> x.dimension(slot, k));
            refusedOutsideSlots(FOUR, (x, slot) -> x.dimension(slot, k));
        }
    }

    @Sentence(of = "Promise 17", says = "Throws `IllegalArgumentException` if kind is out of range")
    void promise17_kind_out_of_range() {
        for (int slot = 0; slot <= 3; slot++) {
            int s = slot;
            refusedOutside(0, 2, ARGUMENT, FOUR, (x, kind) -> x.dimension(s, kind));
            refusedOutside(0, 2, ARGUMENT, NEW, (x, kind) -> x.dimension(s, kind));
        }
    }

    // ---- Promise 18: basisWord

    @Sentence(of = "Promise 18", says = "Returns a basis word of the forward reduction.")
    void promise18_final_numbers_play_no_part() {
        Script noFinal = x -> {
            chain(x, 0, 12, B);
            x.setEnd(0, 11, true, 0);
        };
        for (int index = 0; index < 12; index++) {
            int i = index;
            due((2 << i) - 2, noFinal, x -> x.basisWord(0, i));
        }
        changesNothing(FOUR, x -> x.basisWord(3, 0));
    }

    @Sentence(of = "Promise 18", says = "`slot`: 0 to 3")
    void promise18_slot_is_0_to_3() {
        Script build = x -> {
            chain(x, 0, 2, A);
            chain(x, 1, 2, B);
            chain(x, 2, 1, A);
            make(x, 3, row(1, 0), row(0, 1), matrix(row(0, 1), row(0, 0)), matrix(row(0, 1), row(0, 0)));
        };
        due(1, build, x -> x.basisWord(0, 1));
        due(2, build, x -> x.basisWord(1, 1));
        due(INDEX, build, x -> x.basisWord(2, 1));
        due(0, build, x -> x.basisWord(2, 0));
        due(1, build, x -> x.basisWord(3, 1));
        refusedOutsideSlots(build, (x, slot) -> x.basisWord(slot, 0));
    }

    @Sentence(of = "Promise 18", says = "`index`: index of the basis word, from 0")
    void promise18_index_is_from_0_to_the_last_basis_word() {
        for (int states : row(1, 2, 11, 12)) {
            Script build = x -> chain(x, 0, states, A);
            due(0, build, x -> x.basisWord(0, 0));
            due((1 << (states - 1)) - 1, build, x -> x.basisWord(0, states - 1));
            refusedOutside(0, states - 1, INDEX, build, (x, index) -> x.basisWord(0, index));
        }
        // 12 states, but 7 basis words; 12 states without a basis word; no states.
        due(126, rowOf12(5, 8), x -> x.basisWord(0, 6));
        refusedOutside(0, 6, INDEX, rowOf12(5, 8), (x, index) -> x.basisWord(0, index));
        refusedWith(INDEX, x -> x.begin(0, 12), (x, index) -> x.basisWord(0, index), -1, 0, 1, 11, 12);
        refusedWith(INDEX, NEW, (x, index) -> x.basisWord(0, index), -1, 0, 1);
    }

    @Sentence(of = "Promise 18", says = "Returns the number of the word.")
    void promise18_returns_0_to_4094() {
        due(0, x -> one(x, 0, 1, 0, 0, 0), x -> x.basisWord(0, 0));
        due(0, x -> one(x, 0, 10006, 0, 0, 0), x -> x.basisWord(0, 0));
        due(4094, rowOf12(0, 0), x -> x.basisWord(0, 11));
        due(2047, x -> chain(x, 0, 12, A), x -> x.basisWord(0, 11));
    }

    @Sentence(of = "Promise 18", says = "Throws `IndexOutOfBoundsException` if there is no such slot or basis word")
    void promise18_no_such_slot_or_basis_word() {
        refusedOutsideSlots(NEW, (x, slot) -> x.basisWord(slot, 0));
        refusedOutsideSlots(FOUR, (x, slot) -> x.basisWord(slot, -1));
        for (int slot = 0; slot <= 3; slot++) {
            int s = slot;
            due(0, FOUR, x -> x.basisWord(s, 0));
            refusedOutside(0, 0, INDEX, FOUR, (x, index) -> x.basisWord(s, index));
            refused(INDEX, NEW, x -> x.basisWord(s, 0));
        }
    }

    // ---- Promise 19: differing

    @Sentence(of = "Promise 19", says = "Returns the first word with different weights in two automata.")
    void promise19_the_first_word() {
        // Words with the same weights before and after it, other than 0.
        for (int word : row(0, 1, 2, 3, 5, 6, 14, 30)) {
            Bench x = made(y -> numbers(y, 0));
            x.derive(1, 0, 0);
            oneWord(x, 2, word);
            x.combine(1, 1, 2, 0);
            due(word, x, y -> y.differing(0, 1));
            due(word, x, y -> y.differing(1, 0));
            due(word, x, y -> y.differing(2, 3));
        }
        changesNothing(FOUR, x -> x.differing(2, 3));
    }

    /** Makes an automaton in which one word weighs 1, and all others 0. */
    private static void oneWord(Bench x, int slot, int word) {
        String bits = Integer.toBinaryString(word + 1);
        int letters = bits.length() - 1;
        x.begin(slot, letters + 1);
        x.setEnd(slot, 0, false, 1);
        x.setEnd(slot, letters, true, 1);
        for (int k = 0; k < letters; k++) {
            x.setStep(slot, bits.charAt(k + 1) - '0', k, k + 1, 1);
        }
    }

    @Sentence(of = "Promise 19", says = "`x`: 0 to 3")
    void promise19_x_is_0_to_3() {
        Script build = x -> {
            for (int slot = 0; slot <= 3; slot++) {
                oneWord(x, slot, 5 - slot);
            }
        };
        due(4, build, x -> x.differing(0, 1));
        due(NONE, build, x -> x.differing(1, 1));
        due(3, build, x -> x.differing(2, 1));
        due(2, build, x -> x.differing(3, 1));
        refusedOutsideSlots(build, (x, slot) -> x.differing(slot, 1));
    }

    @Sentence(of = "Promise 19", says = "`y`: 0 to 3")
    void promise19_y_is_0_to_3() {
        Script build = x -> {
            for (int slot = 0; slot <= 3; slot++) {
                oneWord(x, slot, 5 - slot);
            }
        };
        due(4, build, x -> x.differing(1, 0));
        due(NONE, build, x -> x.differing(1, 1));
        due(3, build, x -> x.differing(1, 2));
        due(2, build, x -> x.differing(1, 3));
        refusedOutsideSlots(build, (x, slot) -> x.differing(1, slot));
    }

    /** Two circles of 12 states: after 11 letters the first one's turn weighs 1, the second one's as given. */
    private static Script circles(int letter, int returning) {
        return x -> {
            chain(x, 0, 12, letter);
            chain(x, 1, 12, letter);
            x.setStep(0, letter, 11, 0, 1);
            x.setStep(1, letter, 11, 0, returning);
        };
    }

    @Sentence(of = "Promise 19", says = "Returns the number of the word; NONE if the automata are equivalent.")
    void promise19_none_if_equivalent() {
        for (int slot = 0; slot <= 3; slot++) {
            int s = slot;
            due(NONE, FOUR, x -> x.differing(s, s));
            due(NONE, NEW, x -> x.differing(s, 3 - s));
        }
        due(NONE, x -> x.begin(0, 12), x -> x.differing(0, 1));
        due(NONE, x -> x.begin(0, 12), x -> x.differing(1, 0));
        due(0, x -> oneWord(x, 0, 0), x -> x.differing(0, 1));
        due(NONE, circles(A, 1), x -> x.differing(0, 1));
        // Weights that differ by 10006, by 10007, which is nothing, and by 1.
        Script apart = x -> {
            one(x, 0, 1, 10006, 0, 0);
            one(x, 1, 1, 0, 0, 0);
            make(x, 2, row(1, 10006), row(3, 4), new int[2][2], new int[2][2]);
            one(x, 3, 10006, 10006, 0, 0);
        };
        due(0, apart, x -> x.differing(0, 1));
        due(0, apart, x -> x.differing(1, 0));
        due(NONE, apart, x -> x.differing(0, 2));
        due(NONE, apart, x -> x.differing(2, 0));
        due(0, apart, x -> x.differing(2, 3));
    }

    @Sentence(of = "Promise 19", says = "Returns the number of the word; NONE if the automata are equivalent.")
    void promise19_returns_words_of_up_to_23_letters() {
        due((1 << 23) - 1, circles(A, 2), x -> x.differing(0, 1));
        due((2 << 23) - 2, circles(B, 2), x -> x.differing(0, 1));
        due((2 << 23) - 2, circles(B, 0), x -> x.differing(1, 0));
        due((2 << 23) - 2, circles(B, 10006), x -> x.differing(1, 0));
        due(NONE, circles(B, 1), x -> x.differing(1, 0));
    }

    @Sentence(of = "Promise 19", says = "Throws `IndexOutOfBoundsException` if there is no such slot")
    void promise19_no_such_slot() {
        for (Script build : new Script[] {NEW, FOUR}) {
            refusedOutsideSlots(build, (x, slot) -> x.differing(slot, 0));
            refusedOutsideSlots(build, (x, slot) -> x.differing(3, slot));
            refusedOutsideSlots(build, (x, slot) -> x.differing(slot, slot));
        }
    }

    // ---- Promise 20: hankelRank

    @Sentence(of = "Promise 20", says = "Returns the rank of a part of the Hankel matrix: the matrix with size rows and "
            + "columns whose element in row i and column j is the weight of the word i followed by the word j.")
    void promise20_word_i_followed_by_word_j() {
        // With one word alone, each way to cut it into a row's and a column's word counts once both are below the size.
        for (int word : row(0, 1, 2, 4, 5, 8, 11, 30, 40, 510)) {
            for (int size = 0; size <= 31; size++) {
                int s = size;
                due(cutsBelow(word, size), x -> oneWord(x, 0, word), x -> x.hankelRank(0, s));
            }
        }
        changesNothing(FOUR, x -> x.hankelRank(3, 31));
    }

    private static int cutsBelow(int word, int size) {
        String letters = Model.letters(word);
        int cuts = 0;
        for (int at = 0; at <= letters.length(); at++) {
            int i = Model.number(letters.substring(0, at));
            int j = Model.number(letters.substring(at));
            cuts += i < size && j < size ? 1 : 0;
        }
        return cuts;
    }

    @Sentence(of = "Promise 20", says = "Returns the rank of a part of the Hankel matrix: the matrix with size rows and "
            + "columns whose element in row i and column j is the weight of the word i followed by the word j.")
    void promise20_rank_in_the_field() {
        // Nothing, a and aa weigh 72, 1 and 139: 72 * 139 - 1 * 1 is 10007. With 140 it is 10079.
        Script singular = x -> make(x, 0, row(1, 0, 0), row(72, 1, 139), matrix(row(0, 1, 0), row(0, 0, 1), row(0, 0, 0)),
                new int[3][3]);
        due(1, singular, x -> x.hankelRank(0, 2));
        due(2, x -> {
            singular.run(x);
            x.setEnd(0, 2, true, 140);
        }, x -> x.hankelRank(0, 2));
        due(1, x -> one(x, 0, 10006, 1, 10006, 10006), x -> x.hankelRank(0, 31));
    }

    @Sentence(of = "Promise 20", says = "`slot`: 0 to 3")
    void promise20_slot_is_0_to_3() {
        Script build = x -> {
            chain(x, 0, 1, A);
            chain(x, 1, 2, A);
            chain(x, 3, 3, A);
        };
        int[] due = {1, 2, 0, 3};
        Bench all = made(build);
        for (int slot = 0; slot <= 3; slot++) {
            int s = slot;
            due(due[s], build, x -> x.hankelRank(s, 31));
            due(due[s], all, x -> x.hankelRank(s, 31));
        }
        refusedOutsideSlots(build, (x, slot) -> x.hankelRank(slot, 31));
    }

    @Sentence(of = "Promise 20", says = "`size`: 0 to 31")
    void promise20_size_is_0_to_31() {
        due(0, FOUR, x -> x.hankelRank(3, 0));
        due(1, FOUR, x -> x.hankelRank(3, 1));
        // Eight letters b are word 30 twice, and no other two words below 31.
        Script eight = x -> chain(x, 0, 9, B);
        due(0, eight, x -> x.hankelRank(0, 30));
        due(1, eight, x -> x.hankelRank(0, 31));
        // Seven letters b are words 30 and 14.
        Script seven = x -> chain(x, 0, 8, B);
        due(0, seven, x -> x.hankelRank(0, 15));
        due(0, seven, x -> x.hankelRank(0, 30));
        due(2, seven, x -> x.hankelRank(0, 31));
        refusedOutside(0, 31, ARGUMENT, FOUR, (x, size) -> x.hankelRank(3, size));
    }

    @Sentence(of = "Promise 20", says = "Returns the rank.")
    void promise20_returns_0_to_12() {
        due(0, NEW, x -> x.hankelRank(0, 31));
        due(0, x -> x.begin(0, 12), x -> x.hankelRank(0, 31));
        due(1, x -> one(x, 0, 1, 1, 0, 0), x -> x.hankelRank(0, 31));
        // Nothing, a, b, aa, ... weigh something new each: with 12 states the rank is at most 12.
        Script wide = x -> x.random(0, 12, 4);
        due(11, wide, x -> x.hankelRank(0, 11));
        due(12, wide, x -> x.hankelRank(0, 12));
        due(12, wide, x -> x.hankelRank(0, 13));
        due(12, wide, x -> x.hankelRank(0, 31));
    }

    @Sentence(of = "Promise 20", says = "Throws `IndexOutOfBoundsException` if there is no such slot")
    void promise20_no_such_slot() {
        refusedOutsideSlots(NEW, (x, slot) -> x.hankelRank(slot, 0));
        refusedOutsideSlots(FOUR, (x, slot) -> x.hankelRank(slot, 32));
        refusedOutsideSlots(FOUR, (x, slot) -> x.hankelRank(slot, -1));
    }

    @Sentence(of = "Promise 20", says = "Throws `IllegalArgumentException` if size is out of range")
    void promise20_size_out_of_range() {
        for (int slot = 0; slot <= 3; slot++) {
            int s = slot;
            refusedOutside(0, 31, ARGUMENT, FOUR, (x, size) -> x.hankelRank(s, size));
            refusedOutside(0, 31, ARGUMENT, NEW, (x, size) -> x.hankelRank(s, size));
        }
    }

    // ---- Promise 21: recurs

    @Sentence(of = "Promise 21", says = "Tells whether the totals satisfy a recurrence of an order d: whether there are "
            + "numbers c0 to c(d-1) with total(n + d) = c0 * total(n) + ... + c(d-1) * total(n + d - 1) "
            + "for all n from 0 to 30.")
    void promise21_from_n_0_on() {
        // The totals are 0, 1, 1, 1, ...: with order 1 they fail at n = 0 alone, with order 2 they don't.
        Script late = x -> make(x, 0, row(1, 0), row(0, 1), matrix(row(0, 1), row(0, 1)), new int[2][2]);
        due(false, late, x -> x.recurs(0, 1));
        due(true, late, x -> x.recurs(0, 2));
        due(true, late, x -> x.recurs(0, 12));
        // 1, 0, 0, 0, ...: c0 is 0.
        due(true, x -> one(x, 0, 1, 1, 0, 0), x -> x.recurs(0, 1));
        changesNothing(FOUR, x -> x.recurs(3, 12));
    }

    @Sentence(of = "Promise 21", says = "Tells whether the totals satisfy a recurrence of an order d: whether there are "
            + "numbers c0 to c(d-1) with total(n + d) = c0 * total(n) + ... + c(d-1) * total(n + d - 1) "
            + "for all n from 0 to 30.")
    void promise21_up_to_the_states() {
        // Total 11 alone is 1, all others are 0: an order d fails at n = 11 - d, and 12 doesn't.
        for (int states = 1; states <= 12; states++) {
            for (int d = 1; d <= 12; d++) {
                int n = states;
                int order = d;
                due(d >= states, x -> chain(x, 0, n, A), x -> x.recurs(0, order));
            }
        }
        // Totals of letters a, b and both: 2, 10006 + 1 and 10006 + 2 ways to go on.
        due(true, x -> one(x, 0, 1, 1, 1, 1), x -> x.recurs(0, 1));
        due(true, x -> one(x, 0, 1, 1, 10006, 1), x -> x.recurs(0, 1));
        due(true, x -> one(x, 0, 1, 1, 10006, 0), x -> x.recurs(0, 1));
    }

    @Sentence(of = "Promise 21", says = "`slot`: 0 to 3")
    void promise21_slot_is_0_to_3() {
        Script build = x -> {
            chain(x, 0, 2, A);
            chain(x, 1, 3, A);
            chain(x, 3, 4, A);
        };
        due(true, build, x -> x.recurs(0, 2));
        due(false, build, x -> x.recurs(1, 2));
        due(true, build, x -> x.recurs(2, 1));
        due(false, build, x -> x.recurs(3, 3));
        due(true, build, x -> x.recurs(3, 4));
        Bench all = made(build);
        for (int slot = 3; slot >= 0; slot--) {
            for (int d = 1; d <= 4; d++) {
                int s = slot;
                int order = d;
                due(s == 2 || order >= (s == 3 ? 4 : s + 2), all, x -> x.recurs(s, order));
            }
        }
        refusedOutsideSlots(build, (x, slot) -> x.recurs(slot, 4));
    }

    @Sentence(of = "Promise 21", says = "`d`: 1 to 12")
    void promise21_d_is_1_to_12() {
        due(true, FOUR, x -> x.recurs(3, 1));
        due(true, FOUR, x -> x.recurs(3, 12));
        refusedOutside(1, 12, ARGUMENT, FOUR, (x, d) -> x.recurs(3, d));
        refusedOutside(1, 12, ARGUMENT, NEW, (x, d) -> x.recurs(0, d));
    }

    @Sentence(of = "Promise 21", says = "Returns whether there are such numbers.")
    void promise21_returns_whether_there_are() {
        due(true, NEW, x -> x.recurs(0, 1));
        due(true, NEW, x -> x.recurs(0, 12));
        due(true, x -> x.begin(0, 12), x -> x.recurs(0, 1));
        due(false, x -> chain(x, 0, 12, A), x -> x.recurs(0, 11));
        due(true, x -> chain(x, 0, 12, A), x -> x.recurs(0, 12));
        // Whatever was asked before.
        Bench x = made(y -> {
            chain(y, 0, 3, A);
            y.random(1, 12, 4);
        });
        for (int d = 1; d <= 12; d++) {
            int order = d;
            x.hankelRank(1, 31);
            due(order >= 3, x, y -> y.recurs(0, order));
        }
    }

    @Sentence(of = "Promise 21", says = "Throws `IndexOutOfBoundsException` if there is no such slot")
    void promise21_no_such_slot() {
        for (int d : row(0, 1, 12, 13)) {
            refusedOutsideSlots(NEW, (x, slot) -> x.recurs(slot, d));
            refusedOutsideSlots(FOUR, (x, slot) -> x.recurs(slot, d));
        }
    }

    @Sentence(of = "Promise 21", says = "Throws `IllegalArgumentException` if d is out of range")
    void promise21_d_out_of_range() {
        for (int slot = 0; slot <= 3; slot++) {
            int s = slot;
            refusedOutside(1, 12, ARGUMENT, FOUR, (x, d) -> x.recurs(s, d));
        }
    }

    // ---- Promise 22: inverse

    @Sentence(of = "Promise 22", says = "Returns 1 / x.")
    void promise22_returns_1_divided_by_x() {
        due(1, NEW, x -> x.inverse(1));
        due(5004, NEW, x -> x.inverse(2));
        due(2, NEW, x -> x.inverse(5004));
        due(10006, NEW, x -> x.inverse(10006));
        due(5003, NEW, x -> x.inverse(10005));
        changesNothing(FOUR, x -> x.inverse(10006));
    }

    @Sentence(of = "Promise 22", says = "`x`: 1 to 10006")
    void promise22_x_is_1_to_10006() {
        Bench x = made(NEW);
        for (int number = 1; number <= 10006; number++) {
            x = x.left() == 0 ? made(NEW) : x;
            int n = number;
            due(1L, x, y -> (long) n * y.inverse(n) % PRIME);
        }
        refusedOutside(1, 10006, ARGUMENT, FOUR, (y, n) -> y.inverse(n));
    }

    @Sentence(of = "Promise 22", says = "Returns that number.")
    void promise22_returns_1_to_10006() {
        Bench x = made(NEW);
        boolean[] seen = new boolean[PRIME];
        for (int number = 1; number <= 10006; number++) {
            x = x.left() == 0 ? made(NEW) : x;
            int n = number;
            due(true, x, y -> {
                int inverse = y.inverse(n);
                boolean fresh = inverse >= 1 && inverse <= 10006 && !seen[inverse];
                seen[fresh ? inverse : 0] = true;
                return fresh;
            });
        }
    }

    @Sentence(of = "Promise 22", says = "Throws `IllegalArgumentException` if x is out of range")
    void promise22_x_out_of_range() {
        refusedWith(ARGUMENT, NEW, (x, n) -> x.inverse(n), 0, -1, 10007, 10008, 20014, Integer.MIN_VALUE,
                Integer.MAX_VALUE);
        refusedOutside(1, 10006, ARGUMENT, FOUR, (x, n) -> x.inverse(n));
    }
}

/** The document's terms of numbers, automata, words, operations, minimization, undo and exceptions, by sentences. */
public final class TermsEdgesTest extends Edges {
    public static void main(String[] args) {
        new TermsEdgesTest().run();
    }

    private static final int SUM = 0;
    private static final int HADAMARD = 1;
    private static final int CAUCHY = 2;
    private static final int REVERSAL = 1;
    private static final int STAR = 2;
    private static final int REDUCED = 5;
    private static final int MINIMAL = 6;

    private static int[][] none(int states) {
        return new int[states][states];
    }

    // ---- an object's calls

    @Sentence(of = "What it is", says = "An object is used for at most 512 calls after it has been made;")
    void use_the_512th_call_is_answered() {
        Script calls508 = x -> {
            FOUR.run(x);
            while (x.left() > 4) {
                x.setEnd(3, 0, false, x.left() % 7);
            }
        };
        // The last number set before is 5.
        Bench x = made(calls508);
        due(5, x, y -> y.setEnd(3, 0, false, 4));
        due(12, x, y -> y.weight(3, 2));
        due(3, x, y -> y.undo());
        due(15, x, y -> y.weight(3, 2));
        due(0, x, y -> y.left());
        Script calls511 = y -> {
            calls508.run(y);
            y.clearText();
            y.append('b');
            y.setEnd(3, 3, true, 10006);
        };
        due(1, calls511, y -> y.left());
        due(2, calls511, y -> y.parse(0));
        due(3, calls511, y -> y.undo());
        due(8, calls511, y -> y.combine(0, 3, 3, SUM));
        due(1, calls511, y -> y.derive(0, 3, MINIMAL));
        due(4095, calls511, y -> y.support(3, 4095));
        due(10006, calls511, y -> y.end(3, 3, true));
        due(INDEX, calls511, y -> y.end(3, 4, true));
    }

    // ---- the constant

    @Sentence(of = "Terms", says = "The constants: `NONE = -1`: There is no such thing.")
    void terms_none_is_minus_1() {
        due(-1, NEW, x -> SeriesBench.NONE);
        due(SeriesBench.NONE, NEW, x -> x.first(0));
        due(SeriesBench.NONE, NEW, x -> x.differing(0, 1));
    }

    // ---- the field

    @Sentence(of = "Terms", says = "are given as 0 to 10006;")
    void terms_numbers_are_0_to_10006() {
        Script build = x -> x.begin(0, 1);
        for (int number : row(0, 10006)) {
            Bench x = made(build);
            x.setEnd(0, 0, false, number);
            x.setEnd(0, 0, true, number);
            x.setStep(0, A, 0, 0, number);
            x.setStep(0, B, 0, 0, number);
            holdsOne(x, 0, number, number, number, number);
            succeeds(build, y -> y.scale(0, number));
        }
        refusedOutside(0, 10006, ARGUMENT, build, (x, number) -> x.setEnd(0, 0, false, number));
        refusedOutside(0, 10006, ARGUMENT, build, (x, number) -> x.setEnd(0, 0, true, number));
        refusedOutside(0, 10006, ARGUMENT, build, (x, number) -> x.setStep(0, A, 0, 0, number));
        refusedOutside(0, 10006, ARGUMENT, build, (x, number) -> x.setStep(0, B, 0, 0, number));
        refusedOutside(0, 10006, ARGUMENT, build, (x, number) -> x.scale(0, number));
        refusedOutside(1, 10006, ARGUMENT, build, (x, number) -> x.inverse(number));
    }

    @Sentence(of = "Terms", says = "sums and products are taken in the field,")
    void terms_sums_wrap_around_at_10007() {
        int[][] pairs = {{10005, 1, 10006}, {10006, 1, 0}, {10006, 2, 1}, {10006, 10006, 10005}, {5003, 5003, 10006},
            {5003, 5004, 0}, {0, 10006, 10006}};
        for (int[] pair : pairs) {
            due(pair[2], x -> make(x, 0, row(1, 1), row(pair[0], pair[1]), none(2), none(2)), x -> x.weight(0, 0));
            due(pair[2], x -> one(x, 0, 1, 1, pair[0], pair[1]), x -> x.total(0, 1));
        }
    }

    @Sentence(of = "Terms", says = "sums and products are taken in the field,")
    void terms_products_wrap_around_at_10007() {
        int[][] pairs = {{10006, 1, 10006}, {5003, 2, 10006}, {5004, 2, 1}, {10006, 2, 10005}, {10006, 10006, 1},
            {10006, 0, 0}, {10005, 10006, 2}};
        for (int[] pair : pairs) {
            due(pair[2], x -> one(x, 0, pair[0], pair[1], 0, 0), x -> x.weight(0, 0));
            due(pair[2], x -> one(x, 0, 1, pair[0], pair[1], 0), x -> x.weight(0, 1));
            due(pair[2], x -> one(x, 0, pair[0], 1, 0, pair[1]), x -> x.weight(0, 2));
            due(pair[2], x -> one(x, 0, pair[0], 1, 0, 0), x -> x.scale(0, pair[1]));
        }
        // Twelve products of 1 each, from factors of 10006.
        int[] large = new int[12];
        int[][] diagonal = none(12);
        for (int i = 0; i < 12; i++) {
            large[i] = 10006;
            diagonal[i][i] = 10006;
        }
        Script twelve = x -> {
            x.begin(0, 12);
            for (int i = 0; i < 12; i++) {
                x.setEnd(0, i, false, large[i]);
                x.setEnd(0, i, true, large[i]);
                for (int j = 0; j < 12; j++) {
                    x.setStep(0, A, i, j, large[j]);
                }
            }
        };
        due(12, twelve, x -> x.weight(0, 0));
        // Each a multiplies by -12: the entries are all -1.
        due(10007 - 144, twelve, x -> x.weight(0, 1));
        due(1728, twelve, x -> x.weight(0, 3));
        due(1728, twelve, x -> x.powerWeight(0, 1, 2));
        due(1728, twelve, x -> x.total(0, 2));
    }

    @Sentence(of = "Terms", says = "1 / x is the number whose product with x is 1.")
    void terms_1_divided_by_x() {
        due(1, NEW, x -> x.inverse(1));
        due(10006, NEW, x -> x.inverse(10006));
        // Coordinates are divided, too: by a, 2 becomes 1, which is 5004 times 2.
        Bench x = made(y -> one(y, 0, 2, 3, 5004, 0));
        x.derive(1, 0, REDUCED);
        holdsOne(x, 1, 1, 6, 5004, 0);
        Bench y = made(z -> make(z, 0, row(10006, 0), row(1, 1), matrix(row(0, 2), row(1, 0)), none(2)));
        y.derive(1, 0, REDUCED);
        // The vectors are (10006, 0) and (0, 10005), and by aa (10005, 0), twice the first one.
        holds(y, 1, row(1, 0), row(10006, 10005), matrix(row(0, 1), row(2, 0)), none(2));
    }

    // ---- automata

    @Sentence(of = "Terms", says = "There are 4 slots, numbered 0 to 3.")
    void terms_slots_are_0_to_3() {
        ActWith[] calls = {(x, s) -> x.begin(s, 1), (x, s) -> x.setEnd(s, 0, true, 1),
            (x, s) -> x.setStep(s, A, 0, 0, 1), (x, s) -> x.random(s, 1, 1), (x, s) -> x.states(s),
            (x, s) -> x.end(s, 0, true), (x, s) -> x.step(s, A, 0, 0), (x, s) -> x.weight(s, 1),
            (x, s) -> x.powerWeight(s, 1, 1), (x, s) -> x.total(s, 1), (x, s) -> x.support(s, 1),
            (x, s) -> x.first(s), (x, s) -> x.combine(s, 0, 1, SUM), (x, s) -> x.combine(0, s, 1, SUM),
            (x, s) -> x.combine(0, 1, s, SUM), (x, s) -> x.derive(s, 0, MINIMAL), (x, s) -> x.derive(0, s, MINIMAL),
            (x, s) -> x.scale(s, 2), (x, s) -> x.dimension(s, 2), (x, s) -> x.basisWord(s, 0),
            (x, s) -> x.differing(s, 0), (x, s) -> x.differing(0, s), (x, s) -> x.hankelRank(s, 3),
            (x, s) -> x.recurs(s, 1), (x, s) -> x.parse(s)};
        for (ActWith call : calls) {
            for (int slot = 0; slot <= 3; slot++) {
                int s = slot;
                succeeds(FOUR, x -> call.on(x, s));
            }
            refusedOutsideSlots(FOUR, call);
        }
    }

    @Sentence(of = "Terms", says = "Each holds an automaton with n states, 0 to 12, initially 0;")
    void terms_states_are_0_to_12() {
        due(0, NEW, x -> x.states(0));
        Script largest = x -> {
            chain(x, 0, 12, A);
            x.begin(1, 11);
            x.begin(2, 1);
            write(x, "ab*a*b*a*b*a*b*a*b*a*");
        };
        // Each call that makes an automaton: 12 states at most.
        due(12, largest, x -> x.combine(3, 1, 2, SUM));
        due(12, largest, x -> x.combine(3, 1, 2, CAUCHY));
        due(12, largest, x -> x.combine(3, 0, 2, HADAMARD));
        due(12, largest, x -> x.derive(3, 1, STAR));
        due(12, largest, x -> x.derive(3, 0, MINIMAL));
        due(12, largest, x -> x.parse(3));
        succeeds(largest, x -> x.begin(3, 12));
        succeeds(largest, x -> x.random(3, 12, 0));
        refused(ARGUMENT, largest, x -> x.begin(3, 13));
        refused(ARGUMENT, largest, x -> x.random(3, 13, 0));
        refused(STATE, largest, x -> x.combine(3, 0, 2, SUM));
        refused(STATE, largest, x -> x.combine(3, 0, 2, CAUCHY));
        refused(STATE, largest, x -> x.combine(3, 0, 0, HADAMARD));
        refused(STATE, largest, x -> x.derive(3, 0, STAR));
        changesNothing(x -> write(x, "ab*a*b*a*b*a*b*a*b*a*b*"), x -> x.parse(3));
    }

    @Sentence(of = "Terms", says = "the letters are a (number 0) and b (number 1).")
    void terms_letters_are_0_and_1() {
        Script build = x -> one(x, 2, 1, 1, 5, 7);
        due(5, build, x -> x.step(2, 0, 0, 0));
        due(7, build, x -> x.step(2, 1, 0, 0));
        due(5, build, x -> x.weight(2, 1));
        due(7, build, x -> x.weight(2, 2));
        refusedOutside(0, 1, INDEX, build, (x, letter) -> x.step(2, letter, 0, 0));
        refusedOutside(0, 1, INDEX, build, (x, letter) -> x.setStep(2, letter, 0, 0, 1));
    }

    @Sentence(of = "Terms", says = "It has an initial number and a final number for each state, "
            + "and a number for each letter and each pair of states.")
    void terms_12_states_have_a_number_each() {
        for (int letter : row(A, B)) {
            Bench x = made(y -> y.begin(3, 12));
            for (int i = 0; i < 12; i++) {
                x.setEnd(3, i, false, 10006 - i);
                x.setEnd(3, i, true, 100 + i);
                for (int j = 0; j < 12; j++) {
                    x.setStep(3, letter, i, j, 1000 + 12 * i + j);
                }
            }
            for (int i = 0; i < 12; i++) {
                int from = i;
                due(10006 - i, x, y -> y.end(3, from, false));
                due(100 + i, x, y -> y.end(3, from, true));
                for (int j = 0; j < 12; j++) {
                    int to = j;
                    due(1000 + 12 * i + j, x, y -> y.step(3, letter, from, to));
                }
            }
            due(0, x, y -> y.step(3, 1 - letter, 11, 11));
        }
    }

    @Sentence(of = "Terms", says = "The weight of a word is the product (initial row vector) * (matrix of the first letter) "
            + "* ... * (matrix of the last letter) * (final column vector);")
    void terms_weight_of_one_and_of_many_letters() {
        Script build = x -> make(x, 0, row(2, 3), row(5, 7), matrix(row(1, 2), row(3, 4)), matrix(row(0, 1), row(5, 0)));
        // a: (11, 16); b: (15, 2); ab: (80, 11); ba: (21, 38).
        due(11 * 5 + 16 * 7, build, x -> x.weight(0, 1));
        due(15 * 5 + 2 * 7, build, x -> x.weight(0, 2));
        due(80 * 5 + 11 * 7, build, x -> x.weight(0, 4));
        due(21 * 5 + 38 * 7, build, x -> x.weight(0, 5));
        // 19 letters, the most that a word's number can have: a's and b's up to word 1000000.
        due(1000000 % PRIME, x -> numbers(x, 0), x -> x.weight(0, 1000000));
    }

    @Sentence(of = "Terms", says = "the weight of the empty word is initial row times final column;")
    void terms_weight_of_the_empty_word() {
        due(31, x -> make(x, 0, row(2, 3), row(5, 7), matrix(row(1, 2), row(3, 4)), none(2)), x -> x.weight(0, 0));
        due(31, x -> make(x, 0, row(2, 3), row(5, 7), matrix(row(1, 2), row(3, 4)), none(2)),
                x -> x.powerWeight(0, 0, 200));
        due(31, x -> make(x, 0, row(2, 3), row(5, 7), matrix(row(1, 2), row(3, 4)), none(2)), x -> x.total(0, 0));
        due(0, x -> make(x, 0, row(2, 0), row(0, 7), none(2), none(2)), x -> x.weight(0, 0));
        due(10006, x -> one(x, 0, 10006, 1, 5, 5), x -> x.weight(0, 0));
    }

    @Sentence(of = "Terms", says = "with no states all weights are 0.")
    void terms_without_states_all_weights_are_0() {
        for (int slot = 0; slot <= 3; slot++) {
            int s = slot;
            for (int word : row(0, 1, 2, 999999, 1000000)) {
                due(0, NEW, x -> x.weight(s, word));
                due(0, NEW, x -> x.powerWeight(s, word, 0));
                due(0, NEW, x -> x.powerWeight(s, word, 200));
            }
            due(0, NEW, x -> x.total(s, 0));
            due(0, NEW, x -> x.total(s, 2000));
            due(0, NEW, x -> x.support(s, 4095));
            due(NONE, NEW, x -> x.first(s));
            due(0, NEW, x -> x.hankelRank(s, 31));
            due(0, NEW, x -> x.scale(s, 10006));
            due(true, NEW, x -> x.recurs(s, 1));
            // An automaton that had states and has none any more.
            due(0, x -> {
                FOUR.run(x);
                x.begin(s, 0);
            }, x -> x.weight(s, 0));
        }
    }

    @Sentence(of = "Terms", says = "Two automata are equivalent if they have the same series.")
    void terms_equivalent_whatever_the_states() {
        // No states and 12 states without a weight; 1 state and 12 states; one number apart.
        due(NONE, x -> x.begin(0, 12), x -> x.differing(0, 1));
        Script build = x -> {
            x.begin(0, 12);
            fill(x, 0, 2, 3, 5, 7);
            one(x, 1, 3, 2, 5, 7);
            one(x, 2, 1, 6, 5, 7);
            one(x, 3, 1, 6, 5, 8);
        };
        due(NONE, build, x -> x.differing(0, 1));
        due(NONE, build, x -> x.differing(1, 2));
        due(NONE, build, x -> x.differing(2, 0));
        due(2, build, x -> x.differing(2, 3));
        due(2, build, x -> x.differing(3, 0));
    }

    // ---- words

    @Sentence(of = "Terms", says = "Words are ordered by their lengths, words of equal length lexicographically "
            + "(a before b);")
    void terms_words_are_ordered() {
        // Two words weigh something: the first one is the shorter one, then the one with a before b.
        String[] words = {"", "a", "b", "aa", "ab", "ba", "bb", "aaa", "aab", "aba", "abb", "baa", "bab", "bba", "bbb",
            "aaaa"};
        for (int i = 0; i < words.length; i++) {
            for (int j = i + 1; j < words.length; j++) {
                String late = words[j];
                String early = words[i];
                Bench x = made(y -> {
                    oneWord(y, 1, late);
                    oneWord(y, 2, early);
                });
                int first = i;
                int second = j;
                due(first, x, y -> y.differing(1, 2));
                due(second, x, y -> y.first(1));
            }
        }
    }

    private static void oneWord(Bench x, int slot, String word) {
        x.begin(slot, word.length() + 1);
        x.setEnd(slot, 0, false, 1);
        x.setEnd(slot, word.length(), true, 1);
        for (int k = 0; k < word.length(); k++) {
            x.setStep(slot, word.charAt(k) == 'a' ? A : B, k, k + 1, 1);
        }
    }

    @Sentence(of = "Terms", says = "the words in this order are numbered from 0: "
            + "the empty word, a, b, aa, ab, ba, bb, aaa, ...")
    void terms_words_are_numbered_from_0() {
        String[] words = {"", "a", "b", "aa", "ab", "ba", "bb", "aaa"};
        for (int number = 0; number < words.length; number++) {
            String word = words[number];
            for (int other = 0; other < words.length; other++) {
                int n = other;
                due(other == number ? 1 : 0, x -> oneWord(x, 0, word), x -> x.weight(0, n));
            }
        }
        // The last word of each length is all b, the next one all a.
        for (int length = 0; length <= 11; length++) {
            int first = (1 << length) - 1;
            int last = (2 << length) - 2;
            String allA = "a".repeat(length);
            String allB = "b".repeat(length);
            due(1, x -> oneWord(x, 0, allA), x -> x.weight(0, first));
            due(1, x -> oneWord(x, 0, allB), x -> x.weight(0, last));
            due(0, x -> oneWord(x, 0, allB), x -> x.weight(0, last + 1));
            due(first, x -> oneWord(x, 0, allA), x -> x.first(0));
            due(last, x -> oneWord(x, 0, allB), x -> x.first(0));
        }
    }

    // ---- operations

    private static final Script TWO_AND_ONE = x -> {
        make(x, 0, row(2, 3), row(5, 7), matrix(row(1, 2), row(3, 4)), matrix(row(0, 1), row(5, 0)));
        make(x, 1, row(11), row(13), matrix(row(6)), matrix(row(10006)));
    };

    @Sentence(of = "Terms", says = "sum: n + m states, those of x first; initial and final numbers as they are; "
            + "matrices with both blocks, 0 elsewhere.")
    void terms_sum() {
        Bench x = made(TWO_AND_ONE);
        due(3, x, y -> y.combine(3, 0, 1, SUM));
        holds(x, 3, row(2, 3, 11), row(5, 7, 13), matrix(row(1, 2, 0), row(3, 4, 0), row(0, 0, 6)),
                matrix(row(0, 1, 0), row(5, 0, 0), row(0, 0, 10006)));
        due(3, x, y -> y.combine(3, 1, 0, SUM));
        holds(x, 3, row(11, 2, 3), row(13, 5, 7), matrix(row(6, 0, 0), row(0, 1, 2), row(0, 3, 4)),
                matrix(row(10006, 0, 0), row(0, 0, 1), row(0, 5, 0)));
        due(2, x, y -> y.combine(3, 0, 2, SUM));
        due(NONE, x, y -> y.differing(3, 0));
        due(2, x, y -> y.combine(3, 2, 0, SUM));
        due(NONE, x, y -> y.differing(3, 0));
        due(0, x, y -> y.combine(3, 2, 2, SUM));
        // What the slot held before does not come back between the blocks.
        Bench z = made(y -> {
            TWO_AND_ONE.run(y);
            y.random(3, 12, 999);
        });
        z.combine(3, 0, 1, SUM);
        due(0, z, y -> y.step(3, A, 0, 2));
        due(0, z, y -> y.step(3, B, 2, 1));
    }

    @Sentence(of = "Terms", says = "Hadamard product (the weight of each word is the product of its weights): "
            + "n * m states; the state (i, j) has the number m * i + j; all numbers are products.")
    void terms_hadamard_product() {
        Script build = x -> {
            make(x, 0, row(2, 10006), row(5, 7), matrix(row(1, 2), row(3, 4)), none(2));
            make(x, 1, row(1, 2, 3), row(4, 5, 6), matrix(row(1, 10, 100), row(0, 1, 0), row(7, 0, 10006)), none(3));
            x.begin(2, 12);
        };
        Bench x = made(build);
        due(6, x, y -> y.combine(3, 0, 1, HADAMARD));
        int[] initial = {2, 4, 6, 10006, 10005, 10004};
        for (int state = 0; state < 6; state++) {
            int s = state;
            due(initial[s], x, y -> y.end(3, s, false));
        }
        // (0, 2) is state 2, (1, 0) is 3 and (1, 2) is 5.
        due(30, x, y -> y.end(3, 2, true));
        due(28, x, y -> y.end(3, 3, true));
        due(200, x, y -> y.step(3, A, 0, 5));
        due(2 * 10006 % PRIME, x, y -> y.step(3, A, 2, 5));
        due(21, x, y -> y.step(3, A, 5, 0));
        due(3, x, y -> y.step(3, A, 3, 0));
        due(6, x, y -> y.combine(3, 1, 0, HADAMARD));
        // The other way round (2, 0) is state 4, (0, 1) is 1.
        due(6, x, y -> y.end(3, 4, false));
        due(10006, x, y -> y.end(3, 1, false));
        // 1 * 12, 12 * 1, 0 * 12 and 12 * 0 states.
        Script edges = z -> {
            z.random(0, 12, 5);
            one(z, 1, 1, 1, 1, 1);
        };
        due(12, edges, y -> y.combine(3, 0, 1, HADAMARD));
        due(12, edges, y -> y.combine(3, 1, 0, HADAMARD));
        due(0, edges, y -> y.combine(3, 0, 2, HADAMARD));
        due(0, edges, y -> y.combine(3, 2, 0, HADAMARD));
        Bench z = made(edges);
        z.combine(3, 0, 1, HADAMARD);
        due(NONE, z, y -> y.differing(0, 3));
    }

    @Sentence(of = "Terms", says = "Cauchy product (the weight of a word is the sum, over all ways to cut it into two words, "
            + "of the weight of the first one in x times that of the second one in y, "
            + "but for the way with an empty second one twice that:")
    void terms_cauchy_product_with_an_empty_second_word() {
        // Nothing, a and aa weigh 3, 5 and 7 in x, and 11, 13 and 17 in y.
        int[][] step = matrix(row(0, 1, 0), row(0, 0, 1), row(0, 0, 0));
        Bench x = made(y -> {
            make(y, 0, row(1, 0, 0), row(3, 5, 7), step, none(3));
            make(y, 1, row(1, 0, 0), row(11, 13, 17), step, none(3));
        });
        due(6, x, y -> y.combine(2, 0, 1, CAUCHY));
        due(2 * 3 * 11, x, y -> y.weight(2, 0));
        due(2 * 5 * 11 + 3 * 13, x, y -> y.weight(2, 1));
        due(2 * 7 * 11 + 5 * 13 + 3 * 17, x, y -> y.weight(2, 3));
        due(7 * 13 + 5 * 17, x, y -> y.weight(2, 7));
        due(7 * 17, x, y -> y.weight(2, 15));
        due(0, x, y -> y.weight(2, 31));
        due(6, x, y -> y.combine(2, 1, 0, CAUCHY));
        due(2 * 13 * 3 + 11 * 5, x, y -> y.weight(2, 1));
    }

    @Sentence(of = "Terms", says = "n + m states, those of x first. Initial: those of x, then those of y times the weight of "
            + "the empty word in x. Final: those of x times the weight of the empty word in y, then those of y. "
            + "Matrices: the block of x, the block of y, and from a state i of x to a state j of y the number "
            + "(matrix of x times final column of x) i times (initial of y) j; 0 from y to x.")
    void terms_cauchy_product_number_by_number() {
        Bench x = made(y -> {
            TWO_AND_ONE.run(y);
            y.random(3, 12, 999);
        });
        // The empty words weigh 31 and 143; a's matrix times x's final column is (19, 43), b's (7, 25).
        due(3, x, y -> y.combine(3, 0, 1, CAUCHY));
        holds(x, 3, row(2, 3, 341), row(715, 1001, 13), matrix(row(1, 2, 209), row(3, 4, 473), row(0, 0, 6)),
                matrix(row(0, 1, 77), row(5, 0, 275), row(0, 0, 10006)));
        // Without states on one side: no weights, but the states of the other one with numbers times 0.
        due(2, x, y -> y.combine(3, 0, 2, CAUCHY));
        holds(x, 3, row(2, 3), row(0, 0), matrix(row(1, 2), row(3, 4)), matrix(row(0, 1), row(5, 0)));
        due(2, x, y -> y.combine(3, 2, 0, CAUCHY));
        holds(x, 3, row(0, 0), row(5, 7), matrix(row(1, 2), row(3, 4)), matrix(row(0, 1), row(5, 0)));
        due(0, x, y -> y.combine(3, 2, 2, CAUCHY));
        // Weights of empty words that wrap around: 2 * 5004 is 1, 10006 * 10006 is 1, 1 + 10006 is 0.
        Bench z = made(y -> {
            one(y, 0, 2, 5004, 10006, 10005);
            one(y, 1, 10006, 10006, 10004, 10003);
            make(y, 2, row(1, 1), row(1, 10006), none(2), none(2));
        });
        z.combine(3, 0, 1, CAUCHY);
        // By a: 10006 * 5004 is 5003, times 10006 is 5004; by b: 10005 * 5004 is 10006, times 10006 is 1.
        holds(z, 3, row(2, 10006), row(5004, 10006), matrix(row(10006, 5004), row(0, 10004)),
                matrix(row(10005, 1), row(0, 10003)));
        z.combine(3, 0, 2, CAUCHY);
        due(0, z, y -> y.end(3, 0, true));
        due(10006, z, y -> y.end(3, 2, true));
        z.combine(3, 2, 0, CAUCHY);
        due(0, z, y -> y.end(3, 2, false));
        due(1, z, y -> y.end(3, 1, false));
    }

    @Sentence(of = "Terms", says = "star (possible if the weight of the empty word is 0; the sum of all powers): n + 1 states;")
    void terms_star_is_possible_if_the_empty_word_weighs_0() {
        due(1, NEW, x -> x.derive(0, 0, STAR));
        due(2, x -> one(x, 0, 0, 10006, 1, 1), x -> x.derive(3, 0, STAR));
        due(12, x -> x.begin(0, 11), x -> x.derive(3, 0, STAR));
        refused(STATE, x -> x.begin(0, 12), x -> x.derive(3, 0, STAR));
        for (int weight : row(1, 2, 10005, 10006)) {
            refused(STATE, x -> one(x, 0, weight, 1, 1, 1), x -> x.derive(3, 0, STAR));
        }
        due(3, x -> make(x, 0, row(10006, 1), row(1, 1), none(2), none(2)), x -> x.derive(3, 0, STAR));
        refused(STATE, x -> make(x, 0, row(10006, 1), row(1, 2), none(2), none(2)), x -> x.derive(3, 0, STAR));
        // The sum of all powers: nothing weighs 1 in it, from the power 0.
        Bench x = made(y -> one(y, 0, 0, 1, 1, 1));
        x.derive(0, 0, STAR);
        due(1, x, y -> y.weight(0, 0));
        due(0, x, y -> y.weight(0, 1));
        x.begin(1, 0);
        x.derive(1, 1, STAR);
        due(NONE, x, y -> y.differing(0, 1));
    }

    @Sentence(of = "Terms", says = "state 0 is new, with initial 1 and final 1; all others, in order, have initial 0 and "
            + "final 0. From state 0 to itself: (initial * matrix * final) of x; from 0 to state 1 + j: "
            + "(initial * matrix) j; from 1 + i to 0: (matrix * final) i; otherwise the matrix of x.")
    void terms_star_number_by_number() {
        Bench x = made(y -> {
            make(y, 0, row(2, 3), row(10004, 2), matrix(row(1, 2), row(3, 4)), matrix(row(0, 1), row(5, 0)));
            y.random(3, 12, 999);
        });
        // The final column is (-3, 2): a's matrix times it is (1, -1), b's (2, -15).
        due(3, x, y -> y.derive(3, 0, STAR));
        holds(x, 3, row(1, 0, 0), row(1, 0, 0), matrix(row(10006, 11, 16), row(1, 1, 2), row(10006, 3, 4)),
                matrix(row(9966, 15, 2), row(2, 0, 1), row(9992, 5, 0)));
        Bench none = made(NEW);
        none.derive(3, 0, STAR);
        holdsOne(none, 3, 1, 1, 0, 0);
        // 11 states: the last one keeps its numbers in the twelfth.
        Bench full = made(y -> {
            chain(y, 0, 11, A);
            y.setStep(0, B, 10, 10, 10006);
        });
        due(12, full, y -> y.derive(0, 0, STAR));
        due(10006, full, y -> y.step(0, B, 11, 11));
        due(10006, full, y -> y.step(0, B, 11, 0));
        due(1, full, y -> y.step(0, A, 10, 11));
        due(1, full, y -> y.step(0, A, 10, 0));
        due(1, full, y -> y.step(0, A, 0, 2));
        due(0, full, y -> y.step(0, A, 0, 0));
    }

    @Sentence(of = "Terms", says = "reversal (the weight of each word is that of the reversed word): "
            + "initial and final are exchanged, and the matrices transposed.")
    void terms_reversal() {
        Bench x = made(TWO_AND_ONE);
        due(2, x, y -> y.derive(3, 0, REVERSAL));
        holds(x, 3, row(5, 7), row(2, 3), matrix(row(1, 3), row(2, 4)), matrix(row(0, 5), row(1, 0)));
        due(1, x, y -> y.derive(3, 1, REVERSAL));
        holdsOne(x, 3, 13, 11, 6, 10006);
        due(0, x, y -> y.derive(3, 2, REVERSAL));
        Bench full = made(y -> {
            y.random(0, 12, 999);
            y.setStep(0, A, 0, 11, 10006);
            y.setStep(0, B, 11, 0, 10005);
        });
        due(12, full, y -> y.derive(1, 0, REVERSAL));
        due(10006, full, y -> y.step(1, A, 11, 0));
        due(10005, full, y -> y.step(1, B, 0, 11));
        for (int word = 0; word < 15; word++) {
            int w = word;
            int reversed = Model.number(new StringBuilder(Model.letters(w)).reverse().toString());
            due(full.weight(0, w), full, y -> y.weight(1, reversed));
        }
        due(12, full, y -> y.derive(1, 1, REVERSAL));
        due(NONE, full, y -> y.differing(0, 1));
    }

    @Sentence(of = "Terms", says = "quotient by a letter (the weight of w is the old weight of the letter followed by w): "
            + "the initial row becomes (initial row) * (matrix of the letter).")
    void terms_quotient() {
        Bench x = made(TWO_AND_ONE);
        due(2, x, y -> y.derive(3, 0, 3));
        holds(x, 3, row(11, 16), row(5, 7), matrix(row(1, 2), row(3, 4)), matrix(row(0, 1), row(5, 0)));
        due(2, x, y -> y.derive(3, 0, 4));
        holds(x, 3, row(15, 2), row(5, 7), matrix(row(1, 2), row(3, 4)), matrix(row(0, 1), row(5, 0)));
        due(1, x, y -> y.derive(3, 1, 4));
        holdsOne(x, 3, 9996, 13, 6, 10006);
        due(0, x, y -> y.derive(3, 2, 3));
        due(0, x, y -> y.derive(3, 2, 4));
        // Products and sums that wrap around: 10006 * 10006 is 1, 10006 + 1 is 0.
        Bench z = made(y -> make(y, 0, row(10006, 1), row(1, 1), matrix(row(10006, 1), row(0, 1)), none(2)));
        z.derive(0, 0, 3);
        due(1, z, y -> y.end(0, 0, false));
        due(0, z, y -> y.end(0, 1, false));
        Bench full = made(y -> chain(y, 0, 12, A));
        for (int letters = 10; letters >= 0; letters--) {
            due(12, full, y -> y.derive(0, 0, 3));
            int word = (1 << letters) - 1;
            due(word, full, y -> y.first(0));
        }
        full.derive(0, 0, 3);
        due(NONE, full, y -> y.first(0));
    }

    // ---- minimization

    @Sentence(of = "Terms", says = "a list of basis words is built; the words are gone through in their order, beginning "
            + "with the empty word, where from then on only words count that are a basis word followed by a letter;")
    void terms_basis_words_in_their_order() {
        // By a and b the same vector: only a is a basis word, and of the words after it only aa and ab count.
        Script same = x -> make(x, 0, row(1, 0, 0), row(0, 0, 0), matrix(row(0, 1, 0), row(0, 0, 0), row(0, 0, 0)),
                matrix(row(0, 1, 0), row(0, 0, 1), row(0, 0, 0)));
        basisWords(same, 0, 1, 4);
        // By a nothing new: b, then bb, and not ab.
        Script onlyB = x -> make(x, 0, row(1, 0, 0), row(0, 0, 0), matrix(row(2, 0, 0), row(0, 2, 0), row(0, 0, 2)),
                matrix(row(0, 1, 0), row(0, 0, 1), row(0, 0, 0)));
        basisWords(onlyB, 0, 2, 6);
        // a and b both: the first one's words come first.
        Script both = x -> {
            x.begin(0, 5);
            x.setEnd(0, 0, false, 1);
            x.setStep(0, A, 0, 1, 1);
            x.setStep(0, B, 0, 2, 1);
            x.setStep(0, A, 2, 3, 1);
            x.setStep(0, B, 1, 4, 1);
        };
        basisWords(both, 0, 1, 2, 4, 5);
        basisWords(x -> one(x, 0, 1, 0, 1, 1), 0);
        basisWords(x -> x.begin(0, 12));
        basisWords(x -> chain(x, 0, 12, B), 0, 2, 6, 14, 30, 62, 126, 254, 510, 1022, 2046, 4094);
    }

    private void basisWords(Script build, int... words) {
        due(words.length, build, x -> x.dimension(0, 0));
        for (int index = 0; index < words.length; index++) {
            int i = index;
            due(words[i], build, x -> x.basisWord(0, i));
        }
        due(INDEX, build, x -> x.basisWord(0, words.length));
    }

    @Sentence(of = "Terms", says = "a word becomes a basis word if its vector (initial row) * (matrices of its letters) is "
            + "linearly independent of those of the basis words before it.")
    void terms_linearly_independent() {
        // (1, 1) becomes: (0, 0), (2, 2), (-1, -1), and then (1, 2), (-1, -2), (0, 1).
        int[][] dependent = {{0, 0}, {2, 2}, {10006, 10006}, {1, 1}};
        int[][] independent = {{1, 2}, {10006, 10005}, {0, 1}, {1, 0}, {1, 10006}};
        for (int[] factors : dependent) {
            basisWords(x -> make(x, 0, row(1, 1), row(0, 0), matrix(row(factors[0], 0), row(0, factors[1])), none(2)), 0);
        }
        for (int[] factors : independent) {
            basisWords(x -> make(x, 0, row(1, 1), row(0, 0), matrix(row(factors[0], 0), row(0, factors[1])), none(2)),
                    0, 1);
        }
        // (100, 3) becomes (31, 101): 100 * 101 - 3 * 31 is 10007, which is 0; with 102 it isn't.
        int hundredth = made(NEW).inverse(100);
        for (int last : row(101, 102)) {
            int[][] step = matrix(row(31 * hundredth % PRIME, last * hundredth % PRIME), row(0, 0));
            due(last == 101 ? 1 : 2, x -> make(x, 0, row(100, 3), row(0, 0), step, none(2)), x -> x.dimension(0, 0));
        }
        // The zero vector is never independent, not even as the first one.
        basisWords(x -> one(x, 0, 0, 1, 1, 1));
    }

    @Sentence(of = "Terms", says = "The new automaton has a state for each basis word, in order; initial is 1 for the first "
            + "one, 0 for the others; final is the weight of the basis word; the row of a basis word in the matrix of a "
            + "letter is given by the coordinates of (its vector) * (matrix) in the basis.")
    void terms_forward_reduction_number_by_number() {
        // The vectors are (1, 1), (1, 2) by a, (1, 4) by aa: -2 times the first one and 3 times the second one.
        Bench x = made(y -> make(y, 0, row(1, 1), row(1, 0), matrix(row(1, 0), row(0, 2)), matrix(row(0, 1), row(0, 0))));
        due(2, x, y -> y.derive(1, 0, REDUCED));
        holds(x, 1, row(1, 0), row(1, 1), matrix(row(0, 1), row(10005, 3)), matrix(row(10006, 1), row(10006, 1)));
        // One state: 10006 * 10006 is 1.
        Bench one = made(y -> one(y, 0, 10006, 10006, 5, 0));
        due(1, one, y -> y.derive(0, 0, REDUCED));
        holdsOne(one, 0, 1, 1, 5, 0);
        // 12 states of a row of b: the same row, whatever the numbers of its steps.
        Bench full = made(y -> {
            chain(y, 0, 12, B);
            y.setStep(0, B, 10, 11, 10006);
            y.setEnd(0, 0, false, 10006);
        });
        due(12, full, y -> y.derive(1, 0, REDUCED));
        due(1, full, y -> y.end(1, 0, false));
        due(0, full, y -> y.end(1, 11, false));
        due(1, full, y -> y.end(1, 11, true));
        due(1, full, y -> y.step(1, B, 10, 11));
        due(0, full, y -> y.step(1, B, 11, 11));
        due(NONE, full, y -> y.differing(0, 1));
    }

    @Sentence(of = "Terms", says = "Without basis words there are no states.")
    void terms_without_basis_words_there_are_no_states() {
        for (int states : row(0, 1, 11, 12)) {
            for (int kind : row(REDUCED, MINIMAL)) {
                Bench x = made(y -> y.begin(0, states));
                due(0, x, y -> y.derive(1, 0, kind));
                due(0, x, y -> y.states(1));
                // Final numbers alone make no basis word.
                Bench last = made(y -> {
                    y.random(0, states, 3);
                    y.scale(0, 0);
                });
                due(0, last, y -> y.derive(1, 0, kind));
                due(0, last, y -> y.dimension(0, kind == REDUCED ? 0 : 2));
            }
        }
        // Initial numbers alone make basis words, but no minimal state.
        Bench initial = made(y -> one(y, 0, 1, 0, 1, 1));
        due(1, initial, y -> y.derive(1, 0, REDUCED));
        due(0, initial, y -> y.derive(1, 0, MINIMAL));
    }

    @Sentence(of = "Terms", says = "The backward reduction is: reversal, forward reduction, reversal. "
            + "Minimizing is the forward reduction, then the backward reduction.")
    void terms_minimizing_number_by_number() {
        // a + a: forward it starts with (1, 0); backward last, so that its final numbers are (1, 0) and its initial (0, 2).
        Bench x = made(y -> make(y, 0, row(1, 0, 1, 0), row(0, 1, 0, 1),
                matrix(row(0, 1, 0, 0), row(0, 0, 0, 0), row(0, 0, 0, 1), row(0, 0, 0, 0)), none(4)));
        due(2, x, y -> y.derive(1, 0, REDUCED));
        holds(x, 1, row(1, 0), row(0, 2), matrix(row(0, 1), row(0, 0)), none(2));
        due(2, x, y -> y.derive(1, 0, MINIMAL));
        holds(x, 1, row(0, 2), row(1, 0), matrix(row(0, 0), row(1, 0)), none(2));
        // It is the reversal of the forward reduction of the reversal of the forward reduction.
        for (int seed = 0; seed < 8; seed++) {
            Bench r = made(NEW);
            r.random(0, 2, seed);
            r.random(1, 3, seed + 999990);
            r.combine(0, 0, 1, HADAMARD);
            r.combine(0, 0, 0, SUM);
            r.derive(1, 0, REDUCED);
            r.derive(1, 1, REVERSAL);
            r.derive(1, 1, REDUCED);
            r.derive(1, 1, REVERSAL);
            r.derive(2, 1, 0);
            long stepByStep = r.digest();
            r.derive(1, 0, MINIMAL);
            r.derive(2, 1, 0);
            due(stepByStep, r, y -> y.digest());
        }
    }

    @Sentence(of = "Terms", says = "The result has the smallest number of states of all equivalent automata.")
    void terms_the_smallest_number_of_states() {
        due(0, NEW, x -> x.derive(1, 0, MINIMAL));
        due(0, x -> x.begin(0, 12), x -> x.derive(1, 0, MINIMAL));
        due(1, x -> {
            x.begin(0, 12);
            fill(x, 0, 1, 1, 1, 1);
        }, x -> x.derive(1, 0, MINIMAL));
        for (int states = 1; states <= 12; states++) {
            int n = states;
            due(n, x -> chain(x, 0, n, B), x -> x.derive(1, 0, MINIMAL));
        }
        // A series minus itself: 12 states that cancel each other.
        Bench x = made(y -> chain(y, 0, 6, A));
        x.derive(1, 0, 0);
        x.scale(1, 10006);
        due(12, x, y -> y.combine(2, 0, 1, SUM));
        due(0, x, y -> y.derive(3, 2, MINIMAL));
        due(6, x, y -> y.derive(3, 2, REDUCED));
        // Equivalent automata have the same minimal one, number by number.
        Bench z = made(y -> {
            y.random(0, 4, 17);
            y.derive(1, 0, REVERSAL);
            y.derive(1, 1, REDUCED);
            y.derive(1, 1, REVERSAL);
            y.derive(0, 0, MINIMAL);
            y.derive(1, 1, MINIMAL);
            y.derive(2, 0, 0);
            y.derive(3, 1, 0);
        });
        due(z.states(0), z, y -> y.states(1));
        long first = z.digest();
        z.derive(2, 1, 0);
        due(first, z, y -> y.digest());
    }

    // ---- undo

    /** One call of each method whose description says "undoable". */
    private static Act[] undoables() {
        return new Act[] {x -> x.begin(3, 1), x -> x.setEnd(3, 0, true, 8), x -> x.setStep(3, B, 0, 0, 8),
            x -> x.random(3, 5, 5), x -> x.combine(3, 0, 1, SUM), x -> x.derive(3, 0, MINIMAL), x -> x.scale(3, 8),
            x -> x.parse(3)};
    }

    /** One call of each method whose description doesn't say "undoable", but undo. */
    private static Act[] others() {
        return new Act[] {x -> x.states(3), x -> x.end(3, 0, true), x -> x.step(3, B, 0, 0), x -> x.weight(3, 5),
            x -> x.powerWeight(3, 5, 5), x -> x.total(3, 5), x -> x.support(3, 5), x -> x.first(3),
            x -> x.dimension(3, 2), x -> x.basisWord(3, 0), x -> x.differing(3, 0), x -> x.hankelRank(3, 5),
            x -> x.recurs(3, 5), x -> x.inverse(5), x -> x.append('+'), x -> x.clearText(), x -> x.digest()};
    }

    @Sentence(of = "Terms", says = "Each successful call of a method whose description says \"undoable\" saves the state "
            + "from before the call, even if the call changes nothing;")
    void terms_undoable_calls_save_the_state() {
        Script one = x -> {
            x.random(3, 3, 5);
            write(x, "a*");
        };
        for (Act act : undoables()) {
            undoable(FOUR, 4, act);
            undoable(one, 1, act);
        }
        for (Act act : others()) {
            Bench x = made(one);
            act.on(x);
            due(0, x, y -> y.undo());
            due(STATE, x, y -> y.undo());
        }
    }

    @Sentence(of = "Terms", says = "even if the call changes nothing;")
    void terms_calls_that_change_nothing_save_the_state() {
        Script build = x -> {
            x.begin(0, 2);
            x.append('0');
            x.append('a');
        };
        Act[] calls = {x -> x.begin(0, 2), x -> x.begin(3, 0), x -> x.setEnd(0, 1, true, 0),
            x -> x.setStep(0, B, 1, 1, 0), x -> x.random(3, 0, 999999), x -> x.combine(3, 2, 1, SUM),
            x -> x.combine(3, 0, 3, HADAMARD), x -> x.combine(0, 0, 3, CAUCHY), x -> x.derive(0, 0, 0),
            x -> x.derive(0, 0, REVERSAL), x -> x.derive(3, 2, 3), x -> x.scale(0, 1), x -> x.scale(3, 0),
            x -> x.parse(3)};
        for (Act call : calls) {
            Bench x = made(build);
            long before = x.digest();
            call.on(x);
            due(before + 1, x, y -> y.digest());
            due(1, x, y -> y.undo());
            due(before, x, y -> y.digest());
            due(0, x, y -> y.undo());
        }
    }

    @Sentence(of = "Terms", says = "at most 4 states are saved, and the oldest is dropped first.")
    void terms_at_most_4_states_are_saved() {
        for (Act act : undoables()) {
            for (int calls = 0; calls <= 4; calls++) {
                Bench x = made(y -> {
                    y.begin(3, 1);
                    y.append('b');
                });
                for (int k = 0; k < calls; k++) {
                    act.on(x);
                }
                for (int remain = Math.min(calls + 1, 4) - 1; remain >= 0; remain--) {
                    int due = remain;
                    due(due, x, y -> y.undo());
                }
                // With 3 calls after the begin, the state before it is the oldest one saved; with 4 it is dropped.
                due(calls <= 3 ? 0 : 1, x, y -> y.states(3));
                due(STATE, x, y -> y.undo());
            }
        }
    }

    @Sentence(of = "Terms", says = "at most 4 states are saved, and the oldest is dropped first.")
    void terms_the_oldest_is_dropped_first() {
        for (int calls = 1; calls <= 9; calls++) {
            Bench x = made(NEW);
            for (int k = 1; k <= calls; k++) {
                x.begin(k % 4, k);
            }
            // The states that each slot had before the calls that are still saved.
            for (int k = calls; k > Math.max(calls - 4, 0); k--) {
                int slot = k % 4;
                int due = Math.max(k - 4, 0);
                x.undo();
                due(due, x, y -> y.states(slot));
            }
            due(STATE, x, y -> y.undo());
        }
    }

    @Sentence(of = "Terms", says = "The saved state contains the slots.")
    void terms_the_saved_state_contains_the_slots_alone() {
        // Not the text: neither its bytes nor its length come back.
        Bench x = made(y -> write(y, "a"));
        x.begin(0, 12);
        x.append('a');
        due(0, x, y -> y.undo());
        due(2, x, y -> y.clearText());
        x.append('b');
        x.parse(0);
        x.clearText();
        due(0, x, y -> y.undo());
        due(0, x, y -> y.clearText());
        // All four slots: each is as it was at the time.
        Bench all = made(FOUR);
        long slots = all.digest() - 4;
        for (int slot = 0; slot <= 3; slot++) {
            all.random(slot, 12, slot);
        }
        for (int remain = 3; remain >= 0; remain--) {
            int due = remain;
            due(due, all, y -> y.undo());
        }
        due(slots, all, y -> y.digest());
    }

    // ---- exceptions

    @Sentence(of = "Terms", says = "A call that throws an exception changes nothing.")
    void terms_a_call_that_throws_changes_nothing() {
        Script build = x -> {
            x.random(0, 12, 1);
            x.random(1, 7, 2);
            x.random(2, 2, 6);
            x.random(3, 1, 4);
            write(x, "1+".repeat(29) + "12");
        };
        Act[] index = {x -> x.begin(4, 1), x -> x.setEnd(0, 12, true, 1), x -> x.setStep(0, 2, 0, 0, 1),
            x -> x.setStep(0, A, 12, 0, 1), x -> x.setStep(0, A, 0, 12, 1), x -> x.random(4, 1, 1), x -> x.states(4),
            x -> x.end(0, 12, true), x -> x.step(0, A, 12, 0), x -> x.weight(4, 0), x -> x.powerWeight(4, 0, 0),
            x -> x.total(4, 0), x -> x.support(4, 0), x -> x.first(4), x -> x.combine(0, 1, 4, SUM),
            x -> x.derive(0, 4, 0), x -> x.scale(4, 0), x -> x.dimension(4, 0), x -> x.basisWord(0, 12),
            x -> x.differing(0, 4), x -> x.hankelRank(4, 0), x -> x.recurs(4, 1), x -> x.parse(4)};
        Act[] argument = {x -> x.begin(0, 13), x -> x.setEnd(0, 0, true, 10007), x -> x.setStep(0, A, 0, 0, 10007),
            x -> x.random(0, 13, 1), x -> x.random(0, 1, 1000000), x -> x.weight(0, 1000001),
            x -> x.powerWeight(0, 1000001, 1), x -> x.powerWeight(0, 1, 201), x -> x.total(0, 2001),
            x -> x.support(0, 4096), x -> x.combine(0, 1, 2, 3), x -> x.derive(0, 1, 7), x -> x.scale(0, 10007),
            x -> x.dimension(0, 3), x -> x.hankelRank(0, 32), x -> x.recurs(0, 13), x -> x.inverse(10007),
            x -> x.append(128)};
        Act[] state = {x -> x.combine(3, 0, 3, SUM), x -> x.combine(3, 1, 2, HADAMARD), x -> x.combine(3, 0, 1, CAUCHY),
            x -> x.derive(3, 0, STAR), x -> x.append('0')};
        for (Act act : index) {
            refused(INDEX, build, act);
        }
        for (Act act : argument) {
            refused(ARGUMENT, build, act);
        }
        for (Act act : state) {
            refused(STATE, build, act);
        }
        refused(STATE, NEW, x -> x.undo());
    }

    @Sentence(of = "Terms", says = "If several exceptions apply, the one that is listed first is thrown.")
    void terms_the_exception_listed_first() {
        Script build = x -> {
            x.random(0, 12, 1);
            x.random(1, 7, 2);
            write(x, "1+".repeat(29) + "12");
        };
        Act[] indexFirst = {x -> x.begin(4, 13), x -> x.setEnd(4, 0, true, 10007), x -> x.setEnd(0, 12, true, 10007),
            x -> x.setStep(4, A, 0, 0, 10007), x -> x.setStep(0, 2, 0, 0, 10007), x -> x.setStep(0, A, 12, 0, 10007),
            x -> x.setStep(0, A, 0, 12, 10007), x -> x.random(4, 13, 1), x -> x.random(4, 1, 1000000),
            x -> x.weight(4, 1000001), x -> x.powerWeight(4, 1000001, 1), x -> x.powerWeight(4, 1, 201),
            x -> x.total(4, 2001), x -> x.support(4, 4096), x -> x.combine(4, 0, 0, 3), x -> x.combine(4, 0, 0, SUM),
            x -> x.combine(0, 4, 0, 3), x -> x.combine(0, 0, 4, 3), x -> x.combine(0, 0, 4, SUM),
            x -> x.derive(4, 0, 7), x -> x.derive(4, 0, STAR), x -> x.derive(0, 4, 7), x -> x.scale(4, 10007),
            x -> x.dimension(4, 3), x -> x.hankelRank(4, 32), x -> x.recurs(4, 13), x -> x.recurs(4, 0)};
        for (Act act : indexFirst) {
            refused(INDEX, build, act);
        }
        Act[] argumentFirst = {x -> x.combine(2, 0, 0, 3), x -> x.combine(2, 0, 1, -1), x -> x.append(128),
            x -> x.append(-1)};
        for (Act act : argumentFirst) {
            refused(ARGUMENT, build, act);
        }
    }
}

import java.math.BigInteger;

/** Promises 9 to 13, sentence by sentence: the last value that is allowed and the first that isn't. */
public final class WeightsEdgesTest extends Edges {
    public static void main(String[] args) {
        new WeightsEdgesTest().run();
    }

    private static final int LAST_WORD = 1000000;

    /** In slot 1 each word weighs its number, modulo 10007. Slot 2 has no states. */
    private static final Script NUMBERS = x -> numbers(x, 1);

    private static int power(int base, long exponent) {
        return BigInteger.valueOf(base).modPow(BigInteger.valueOf(exponent), BigInteger.valueOf(PRIME)).intValue();
    }

    private static int times(int x, int y) {
        return (int) ((long) x * y % PRIME);
    }

    /** The letters b of a word. */
    private static int countB(int word) {
        return Integer.bitCount(word + 1) - 1;
    }

    private static int length(int word) {
        return 31 - Integer.numberOfLeadingZeros(word + 1);
    }

    /** What FOUR says of a word's power in a slot. */
    private static int inFour(int slot, int word, int times) {
        long b = (long) countB(word) * times;
        long a = (long) length(word) * times - b;
        return times(slot + 1, times(power(2, a), power(3, b)));
    }

    // ---- Promise 9: weight

    @Sentence(of = "Promise 9", says = "Returns the weight of a word.")
    void promise9_letters_are_taken_from_the_first_one() {
        // b leads from state 0 to 1 by 5; a weighs 3 before that and 7 after.
        Script build = x -> make(x, 0, row(1, 0), row(0, 1), matrix(row(3, 0), row(0, 7)), matrix(row(0, 5), row(0, 0)));
        int[] due = {0, 0, 5, 0, 15, 35, 0, 0, 45, 105, 0, 245, 0, 0, 0};
        for (int word = 0; word < due.length; word++) {
            int w = word;
            due(due[w], build, x -> x.weight(0, w));
        }
        changesNothing(FOUR, x -> x.weight(0, LAST_WORD));
    }

    @Sentence(of = "Promise 9", says = "`slot`: 0 to 3")
    void promise9_slot_is_0_to_3() {
        for (int slot = 0; slot <= 3; slot++) {
            int s = slot;
            due(2 * (s + 1), FOUR, x -> x.weight(s, 1));
        }
        refusedOutsideSlots(FOUR, (x, slot) -> x.weight(slot, 1));
    }

    @Sentence(of = "Promise 9", says = "`word`: number of the word, 0 to 1000000")
    void promise9_word_is_0_to_1000000() {
        // The last word of each length and the first of the next one, and the last words of all.
        for (int longest = 0; longest <= 19; longest++) {
            int word = (1 << longest) - 1;
            due(word % PRIME, NUMBERS, x -> x.weight(1, word));
            if (word > 0) {
                due((word - 1) % PRIME, NUMBERS, x -> x.weight(1, word - 1));
            }
        }
        due(999999 % PRIME, NUMBERS, x -> x.weight(1, 999999));
        due(9307, NUMBERS, x -> x.weight(1, 1000000));
        due(inFour(3, 1000000, 1), FOUR, x -> x.weight(3, 1000000));
        refusedOutside(0, 1000000, ARGUMENT, NUMBERS, (x, word) -> x.weight(1, word));
    }

    @Sentence(of = "Promise 9", says = "Returns its weight.")
    void promise9_returns_0_to_10006() {
        due(10006, NUMBERS, x -> x.weight(1, 10006));
        due(0, NUMBERS, x -> x.weight(1, 10007));
        due(1, NUMBERS, x -> x.weight(1, 10008));
        due(0, NUMBERS, x -> x.weight(1, 0));
        due(0, NUMBERS, x -> x.weight(2, 0));
        due(0, NUMBERS, x -> x.weight(2, LAST_WORD));
        due(10006, x -> one(x, 0, 10006, 10006, 10006, 1), x -> x.weight(0, 1));
        due(1, x -> one(x, 0, 10006, 10006, 10006, 1), x -> x.weight(0, 0));
    }

    @Sentence(of = "Promise 9", says = "Throws `IndexOutOfBoundsException` if there is no such slot")
    void promise9_no_such_slot() {
        refusedOutsideSlots(NEW, (x, slot) -> x.weight(slot, 0));
        refusedOutsideSlots(FOUR, (x, slot) -> x.weight(slot, 1000001));
        refusedOutsideSlots(FOUR, (x, slot) -> x.weight(slot, -1));
    }

    @Sentence(of = "Promise 9", says = "Throws `IllegalArgumentException` if word is out of range")
    void promise9_word_out_of_range() {
        for (int slot = 0; slot <= 3; slot++) {
            int s = slot;
            refusedOutside(0, 1000000, ARGUMENT, FOUR, (x, word) -> x.weight(s, word));
            refusedOutside(0, 1000000, ARGUMENT, NEW, (x, word) -> x.weight(s, word));
        }
    }

    // ---- Promise 10: powerWeight

    @Sentence(of = "Promise 10", says = "Returns the weight of a power of a word (the word written a number of times).")
    void promise10_the_word_is_written_again_and_again() {
        // Words 0 to 9 are nothing, a, b, aa, ab, ba, bb, aaa, aab, aba; ab three times is ababab, word 84.
        due(84, NUMBERS, x -> x.powerWeight(1, 4, 3));
        due(105, NUMBERS, x -> x.powerWeight(1, 5, 3));
        due(62, NUMBERS, x -> x.powerWeight(1, 2, 5));
        due(31, NUMBERS, x -> x.powerWeight(1, 1, 5));
        changesNothing(FOUR, x -> x.powerWeight(3, LAST_WORD, 200));
    }

    @Sentence(of = "Promise 10", says = "`slot`: 0 to 3")
    void promise10_slot_is_0_to_3() {
        for (int slot = 0; slot <= 3; slot++) {
            int s = slot;
            due(36 * (s + 1), FOUR, x -> x.powerWeight(s, 4, 2));
        }
        refusedOutsideSlots(FOUR, (x, slot) -> x.powerWeight(slot, 4, 2));
    }

    @Sentence(of = "Promise 10", says = "`word`: number of the word, 0 to 1000000")
    void promise10_word_is_0_to_1000000() {
        for (int times : row(0, 1, 2, 199, 200)) {
            for (int word : row(0, 1, 2, 524286, 524287, 999999, 1000000)) {
                due(inFour(2, word, times), FOUR, x -> x.powerWeight(2, word, times));
            }
        }
        refusedOutside(0, 1000000, ARGUMENT, FOUR, (x, word) -> x.powerWeight(2, word, 0));
        refusedOutside(0, 1000000, ARGUMENT, FOUR, (x, word) -> x.powerWeight(2, word, 200));
    }

    @Sentence(of = "Promise 10", says = "`times`: 0 to 200")
    void promise10_times_is_0_to_200() {
        // Nothing is written: the weight of the empty word.
        due(3, FOUR, x -> x.powerWeight(2, 1, 0));
        due(3, FOUR, x -> x.powerWeight(2, LAST_WORD, 0));
        due(3, FOUR, x -> x.powerWeight(2, 0, 200));
        due(inFour(2, 1, 199), FOUR, x -> x.powerWeight(2, 1, 199));
        due(inFour(2, 1, 200), FOUR, x -> x.powerWeight(2, 1, 200));
        due(inFour(2, 2, 200), FOUR, x -> x.powerWeight(2, 2, 200));
        refusedOutside(0, 200, ARGUMENT, FOUR, (x, times) -> x.powerWeight(2, 0, times));
        refusedOutside(0, 200, ARGUMENT, FOUR, (x, times) -> x.powerWeight(2, LAST_WORD, times));
    }

    @Sentence(of = "Promise 10", says = "Returns its weight.")
    void promise10_returns_0_to_10006() {
        Script minus = x -> one(x, 0, 10006, 1, 10006, 0);
        due(10006, minus, x -> x.powerWeight(0, 1, 200));
        due(1, minus, x -> x.powerWeight(0, 1, 199));
        due(0, minus, x -> x.powerWeight(0, 2, 1));
        due(0, NUMBERS, x -> x.powerWeight(2, 0, 0));
        due(0, NUMBERS, x -> x.powerWeight(2, LAST_WORD, 200));
    }

    @Sentence(of = "Promise 10", says = "Throws `IndexOutOfBoundsException` if there is no such slot")
    void promise10_no_such_slot() {
        refusedOutsideSlots(NEW, (x, slot) -> x.powerWeight(slot, 0, 0));
        refusedOutsideSlots(FOUR, (x, slot) -> x.powerWeight(slot, 1000001, 201));
        refusedOutsideSlots(FOUR, (x, slot) -> x.powerWeight(slot, -1, 0));
        refusedOutsideSlots(FOUR, (x, slot) -> x.powerWeight(slot, 0, -1));
    }

    @Sentence(of = "Promise 10", says = "Throws `IllegalArgumentException` if word or times is out of range")
    void promise10_word_or_times_out_of_range() {
        for (int slot = 0; slot <= 3; slot++) {
            int s = slot;
            refusedOutside(0, 1000000, ARGUMENT, FOUR, (x, word) -> x.powerWeight(s, word, 1));
            refusedOutside(0, 200, ARGUMENT, FOUR, (x, times) -> x.powerWeight(s, 1, times));
            refused(ARGUMENT, NEW, x -> x.powerWeight(s, 1000001, 201));
        }
    }

    // ---- Promise 11: total

    @Sentence(of = "Promise 11", says = "Returns the sum of the weights of all words of a length.")
    void promise11_all_words_of_the_length() {
        // The numbers of the words of length n are 2^n - 1 to 2^(n+1) - 2.
        for (int length = 0; length <= 13; length++) {
            int n = length;
            long least = (1L << n) - 1;
            long sum = (least + 2 * least) * (1L << n) / 2;
            due(sum % PRIME, NUMBERS, x -> x.total(1, n));
        }
        changesNothing(FOUR, x -> x.total(3, 2000));
    }

    @Sentence(of = "Promise 11", says = "`slot`: 0 to 3")
    void promise11_slot_is_0_to_3() {
        for (int slot = 0; slot <= 3; slot++) {
            int s = slot;
            due(25 * (s + 1), FOUR, x -> x.total(s, 2));
        }
        refusedOutsideSlots(FOUR, (x, slot) -> x.total(slot, 2));
    }

    @Sentence(of = "Promise 11", says = "`length`: 0 to 2000")
    void promise11_length_is_0_to_2000() {
        for (int length : row(0, 1, 2, 1999, 2000)) {
            due(times(4, power(5, length)), FOUR, x -> x.total(3, length));
        }
        refusedOutside(0, 2000, ARGUMENT, FOUR, (x, length) -> x.total(3, length));
    }

    @Sentence(of = "Promise 11", says = "Returns the sum.")
    void promise11_returns_0_to_10006() {
        // The weights of a and b are 1 and 10005, then 2 and 10005.
        due(10006, x -> one(x, 0, 1, 1, 1, 10005), x -> x.total(0, 1));
        due(0, x -> one(x, 0, 1, 1, 2, 10005), x -> x.total(0, 1));
        due(10006, x -> one(x, 0, 10006, 1, 1, 0), x -> x.total(0, 2000));
        due(0, x -> one(x, 0, 1, 1, 0, 0), x -> x.total(0, 1));
        due(0, NEW, x -> x.total(0, 0));
        due(0, NEW, x -> x.total(0, 2000));
    }

    @Sentence(of = "Promise 11", says = "Throws `IndexOutOfBoundsException` if there is no such slot")
    void promise11_no_such_slot() {
        refusedOutsideSlots(NEW, (x, slot) -> x.total(slot, 0));
        refusedOutsideSlots(FOUR, (x, slot) -> x.total(slot, 2001));
        refusedOutsideSlots(FOUR, (x, slot) -> x.total(slot, -1));
    }

    @Sentence(of = "Promise 11", says = "Throws `IllegalArgumentException` if length is out of range")
    void promise11_length_out_of_range() {
        for (int slot = 0; slot <= 3; slot++) {
            int s = slot;
            refusedOutside(0, 2000, ARGUMENT, FOUR, (x, length) -> x.total(s, length));
            refusedOutside(0, 2000, ARGUMENT, NEW, (x, length) -> x.total(s, length));
        }
    }

    // ---- Promise 12: support

    @Sentence(of = "Promise 12", says = "Counts the words with a number below a limit whose weight is not 0.")
    void promise12_below_the_limit() {
        // The word of k letters b is number 2^(k+1) - 2: it counts from the next limit on.
        for (int letters = 0; letters <= 11; letters++) {
            int states = letters + 1;
            int word = (2 << letters) - 2;
            due(0, x -> chain(x, 0, states, B), x -> x.support(0, word));
            due(1, x -> chain(x, 0, states, B), x -> x.support(0, word + 1));
        }
        changesNothing(FOUR, x -> x.support(3, 4095));
    }

    @Sentence(of = "Promise 12", says = "Counts the words with a number below a limit whose weight is not 0.")
    void promise12_a_weight_that_wraps_around_to_0() {
        // Word 0 weighs 0, and none again until word 10007, beyond all limits.
        due(4094, NUMBERS, x -> x.support(1, 4095));
        // Both states together: 10006 + 1 is 0, 10006 + 2 is not.
        Script zero = x -> make(x, 0, row(1, 1), row(10006, 1), new int[2][2], new int[2][2]);
        Script notZero = x -> make(x, 0, row(1, 1), row(10006, 2), new int[2][2], new int[2][2]);
        due(0, zero, x -> x.support(0, 4095));
        due(1, notZero, x -> x.support(0, 4095));
        due(1, x -> one(x, 0, 10006, 1, 0, 0), x -> x.support(0, 4095));
    }

    @Sentence(of = "Promise 12", says = "`slot`: 0 to 3")
    void promise12_slot_is_0_to_3() {
        Script build = x -> {
            chain(x, 0, 1, A);
            one(x, 1, 1, 1, 0, 1);
            one(x, 3, 1, 1, 1, 1);
        };
        int[] due = {1, 6, 0, 100};
        Bench all = made(build);
        for (int slot = 0; slot <= 3; slot++) {
            int s = slot;
            due(due[s], build, x -> x.support(s, 100));
            due(due[s], all, x -> x.support(s, 100));
        }
        all.setStep(3, B, 0, 0, 0);
        due(7, all, x -> x.support(3, 100));
        refusedOutsideSlots(build, (x, slot) -> x.support(slot, 100));
    }

    @Sentence(of = "Promise 12", says = "`limit`: 0 to 4095")
    void promise12_limit_is_0_to_4095() {
        for (int limit : row(0, 1, 2, 3, 4094, 4095)) {
            due(limit, FOUR, x -> x.support(3, limit));
        }
        refusedOutside(0, 4095, ARGUMENT, FOUR, (x, limit) -> x.support(3, limit));
    }

    @Sentence(of = "Promise 12", says = "Returns their number.")
    void promise12_returns_0_to_4095() {
        due(0, NEW, x -> x.support(0, 4095));
        due(0, FOUR, x -> x.support(0, 0));
        due(4095, FOUR, x -> x.support(0, 4095));
    }

    @Sentence(of = "Promise 12", says = "Throws `IndexOutOfBoundsException` if there is no such slot")
    void promise12_no_such_slot() {
        refusedOutsideSlots(NEW, (x, slot) -> x.support(slot, 0));
        refusedOutsideSlots(FOUR, (x, slot) -> x.support(slot, 4096));
        refusedOutsideSlots(FOUR, (x, slot) -> x.support(slot, -1));
    }

    @Sentence(of = "Promise 12", says = "Throws `IllegalArgumentException` if limit is out of range")
    void promise12_limit_out_of_range() {
        for (int slot = 0; slot <= 3; slot++) {
            int s = slot;
            refusedOutside(0, 4095, ARGUMENT, FOUR, (x, limit) -> x.support(s, limit));
            refusedOutside(0, 4095, ARGUMENT, NEW, (x, limit) -> x.support(s, limit));
        }
    }

    // ---- Promise 13: first

    @Sentence(of = "Promise 13", says = "Returns the number of the first word whose weight is not 0.")
    void promise13_the_first_word() {
        for (int letters = 0; letters <= 11; letters++) {
            int states = letters + 1;
            due((1 << letters) - 1, x -> chain(x, 0, states, A), x -> x.first(0));
            due((2 << letters) - 2, x -> chain(x, 0, states, B), x -> x.first(0));
        }
        // In a row of 12 states each letter b is joined by a letter a, from the last one to the first one.
        Bench x = made(y -> chain(y, 0, 12, B));
        int due = 4094;
        for (int from = 10; from >= 0; from--) {
            int state = from;
            x.setStep(0, A, state, state + 1, 10006);
            due -= 1 << (10 - state);
            due(due, x, y -> y.first(0));
        }
        changesNothing(FOUR, y -> y.first(0));
    }

    @Sentence(of = "Promise 13", says = "`slot`: 0 to 3")
    void promise13_slot_is_0_to_3() {
        Script build = x -> {
            chain(x, 0, 2, A);
            chain(x, 1, 2, B);
            chain(x, 3, 3, A);
        };
        due(1, build, x -> x.first(0));
        due(2, build, x -> x.first(1));
        due(NONE, build, x -> x.first(2));
        due(3, build, x -> x.first(3));
        refusedOutsideSlots(build, (x, slot) -> x.first(slot));
    }

    @Sentence(of = "Promise 13", says = "Returns the number of the word; NONE if all weights are 0.")
    void promise13_none_if_all_weights_are_0() {
        due(NONE, NEW, x -> x.first(0));
        due(NONE, x -> x.begin(0, 12), x -> x.first(0));
        due(0, FOUR, x -> x.first(0));
        // All but the final numbers, all but the initial numbers, all but the last step.
        Script full = x -> chain(x, 0, 12, B);
        for (Act change : new Act[] {x -> x.setEnd(0, 11, true, 0), x -> x.setEnd(0, 0, false, 0),
            x -> x.setStep(0, B, 10, 11, 0), x -> x.setStep(0, B, 0, 1, 0)}) {
            Bench x = made(full);
            due(4094, x, y -> y.first(0));
            change.on(x);
            due(NONE, x, y -> y.first(0));
        }
        // Two states that cancel each other in each word, and don't any more.
        Bench x = made(y -> make(y, 0, row(1, 10006), row(1, 1), matrix(row(2, 0), row(0, 2)),
                matrix(row(3, 0), row(0, 3))));
        due(NONE, x, y -> y.first(0));
        x.setStep(0, B, 1, 1, 4);
        due(2, x, y -> y.first(0));
        x.setEnd(0, 1, false, 10005);
        due(0, x, y -> y.first(0));
    }

    @Sentence(of = "Promise 13", says = "Throws `IndexOutOfBoundsException` if there is no such slot")
    void promise13_no_such_slot() {
        refusedOutsideSlots(NEW, (x, slot) -> x.first(slot));
        refusedOutsideSlots(FOUR, (x, slot) -> x.first(slot));
    }
}

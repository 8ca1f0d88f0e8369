/** Promises 9 to 13: weight, powerWeight, total, support, first. */
public final class WeightsTest {
    private static final Class<?> INDEX = IndexOutOfBoundsException.class;
    private static final Class<?> ARGUMENT = IllegalArgumentException.class;
    private static final Class<?> STATE = IllegalStateException.class;
    private static final Check CHECK = new Check("WeightsTest");
    private static final long P = 10007;

    public static void main(String[] args) {
        weight();
        powerWeight();
        total();
        support();
        first();
        nothingSaved();
        CHECK.end();
    }

    /** In slot 1 a word weighs what its letters say in binary: a is 0, b is 1. */
    private static Bench readAsBinary() {
        Bench x = new Bench();
        x.begin(1, 2);
        x.setEnd(1, 0, false, 1);
        x.setEnd(1, 1, true, 1);
        for (int letter = 0; letter < 2; letter++) {
            x.setStep(1, letter, 0, 0, 1);
            x.setStep(1, letter, 1, 1, 2);
        }
        x.setStep(1, 1, 0, 1, 1);
        return x;
    }

    /** The object itself, or a new one if no call of it is left. */
    private static Bench usable(Bench x) {
        return x.left() > 0 ? x : readAsBinary();
    }

    private static void weight() {
        Bench binary = readAsBinary();
        for (int word = 0; word <= 1000000; word += word < 3000 ? 1 : 9973) {
            int w = word;
            long due = (w + 1 - Integer.highestOneBit(w + 1)) % P;
            Bench y = usable(binary);
            CHECK.due("weight(1, " + w + ")", due, () -> y.weight(1, w));
            binary = y;
        }
        Bench x = readAsBinary();
        CHECK.due("weight of word 1000000", (1000001 - 524288) % P, () -> x.weight(1, 1000000));
        CHECK.due("weight without states", 0, () -> x.weight(0, 77));
        CHECK.due("weight of word -1", ARGUMENT, () -> x.weight(1, -1));
        CHECK.due("weight of word 1000001", ARGUMENT, () -> x.weight(1, 1000001));
        CHECK.due("weight of slot 4", INDEX, () -> x.weight(4, -1));
        CHECK.due("weight of slot -1", INDEX, () -> x.weight(-1, 0));
        x.begin(2, 1);
        x.setEnd(2, 0, false, 10006);
        x.setEnd(2, 0, true, 10005);
        x.setStep(2, 0, 0, 0, 10006);
        CHECK.due("weight of the empty word", 2, () -> x.weight(2, 0));
        CHECK.due("weight of a", 10005, () -> x.weight(2, 1));
        CHECK.due("weight of b", 0, () -> x.weight(2, 2));
        CHECK.due("weight of aa", 2, () -> x.weight(2, 3));
        x.begin(2, 12);
        for (int i = 0; i < 12; i++) {
            x.setEnd(2, i, false, 10006);
            x.setEnd(2, i, true, 10006);
        }
        CHECK.due("a sum of twelve products", 12, () -> x.weight(2, 0));
    }

    private static void powerWeight() {
        Bench binary = readAsBinary();
        int[] words = {0, 1, 2, 4, 5, 13, 4094, 1000000};
        for (int word : words) {
            long due = 0;
            int length = Integer.numberOfTrailingZeros(Integer.highestOneBit(word + 1));
            int letters = word + 1 - (1 << length);
            for (int times = 0; times <= 200; times++) {
                int t = times;
                Bench y = usable(binary);
                CHECK.due("powerWeight(1, " + word + ", " + t + ")", due, () -> y.powerWeight(1, word, t));
                due = (due * (1 << length) + letters) % P;
                binary = y;
            }
        }
        Bench x = readAsBinary();
        CHECK.due("powerWeight without states", 0, () -> x.powerWeight(0, 5, 5));
        CHECK.due("powerWeight of word -1", ARGUMENT, () -> x.powerWeight(1, -1, 1));
        CHECK.due("powerWeight of word 1000001", ARGUMENT, () -> x.powerWeight(1, 1000001, 1));
        CHECK.due("powerWeight -1 times", ARGUMENT, () -> x.powerWeight(1, 1, -1));
        CHECK.due("powerWeight 201 times", ARGUMENT, () -> x.powerWeight(1, 1, 201));
        CHECK.due("powerWeight of slot 4", INDEX, () -> x.powerWeight(4, -1, 201));
        CHECK.due("powerWeight of slot -1", INDEX, () -> x.powerWeight(-1, 0, 0));
    }

    private static void total() {
        Bench x = readAsBinary();
        long words = 1;
        for (int length = 0; length <= 2000; length++) {
            int n = length;
            long due = words * (words + P - 1) % P * 5004 % P;
            if (n < 40 || n % 97 == 0 || n == 2000) {
                CHECK.due("total(1, " + n + ")", due, () -> x.total(1, n));
            }
            words = 2 * words % P;
        }
        CHECK.due("total without states", 0, () -> x.total(0, 10));
        CHECK.due("total of length -1", ARGUMENT, () -> x.total(1, -1));
        CHECK.due("total of length 2001", ARGUMENT, () -> x.total(1, 2001));
        CHECK.due("total of slot 4", INDEX, () -> x.total(4, 2001));
        CHECK.due("total of slot -1", INDEX, () -> x.total(-1, 0));
    }

    private static void support() {
        Bench x = readAsBinary();
        int zeros = 0;
        for (int limit = 0; limit <= 4095; limit++) {
            int n = limit;
            int due = limit - zeros;
            if (limit < 70 || limit > 4085 || limit % 100 == 0) {
                CHECK.due("support(1, " + n + ")", due, () -> x.support(1, n));
            }
            zeros += Integer.bitCount(limit + 1) == 1 ? 1 : 0;
        }
        x.begin(2, 12);
        x.setEnd(2, 0, false, 1);
        x.setEnd(2, 11, true, 1);
        for (int i = 0; i < 11; i++) {
            x.setStep(2, 1, i, i + 1, 3);
        }
        CHECK.due("support without the last word of 11 letters", 0, () -> x.support(2, 4094));
        CHECK.due("support with the last word of 11 letters", 1, () -> x.support(2, 4095));
        x.begin(3, 1);
        x.setEnd(3, 0, false, 1);
        x.setEnd(3, 0, true, 1);
        CHECK.due("support of the empty word", 1, () -> x.support(3, 1));
        CHECK.due("support of the empty word among all", 1, () -> x.support(3, 4095));
        x.setStep(3, 1, 0, 0, 1);
        CHECK.due("support after another call of it", 2, () -> x.support(3, 3));
        CHECK.due("support without states", 0, () -> x.support(0, 4095));
        CHECK.due("support below -1", ARGUMENT, () -> x.support(1, -1));
        CHECK.due("support below 4096", ARGUMENT, () -> x.support(1, 4096));
        CHECK.due("support of slot 4", INDEX, () -> x.support(4, 4096));
        CHECK.due("support of slot -1", INDEX, () -> x.support(-1, 0));
    }

    private static void first() {
        Bench x = readAsBinary();
        CHECK.due("first without states", -1, () -> x.first(0));
        CHECK.due("first of the binary numbers", 2, () -> x.first(1));
        x.begin(2, 12);
        x.setEnd(2, 0, false, 1);
        x.setEnd(2, 11, true, 1);
        for (int i = 0; i < 11; i++) {
            x.setStep(2, 1, i, i + 1, 3);
        }
        CHECK.due("first of a word of 11 letters", 4094, () -> x.first(2));
        CHECK.due("first of slot 4", INDEX, () -> x.first(4));
        CHECK.due("first of slot -1", INDEX, () -> x.first(-1));
        x.setStep(2, 0, 10, 11, 5);
        CHECK.due("first of two words", 4093, () -> x.first(2));
        x.setEnd(2, 11, true, 0);
        CHECK.due("first without final numbers", -1, () -> x.first(2));
        x.setEnd(2, 11, true, 1);
        x.setEnd(2, 0, false, 0);
        CHECK.due("first without initial numbers", -1, () -> x.first(2));
        x.begin(3, 3);
        x.setEnd(3, 0, false, 1);
        x.setEnd(3, 0, true, 10006);
        x.setEnd(3, 1, false, 1);
        x.setEnd(3, 1, true, 1);
        x.setStep(3, 0, 0, 0, 4);
        x.setStep(3, 0, 1, 1, 4);
        x.setStep(3, 1, 0, 1, 6);
        x.setStep(3, 1, 1, 0, 5);
        CHECK.due("first where weights cancel", 2, () -> x.first(3));
        CHECK.due("a weight that cancels", 0, () -> x.weight(3, 1));
        CHECK.due("the first weight", 1, () -> x.weight(3, 2));
    }

    private static void nothingSaved() {
        Bench x = new Bench();
        x.weight(0, 0);
        x.powerWeight(0, 0, 0);
        x.total(0, 0);
        x.support(0, 0);
        x.first(0);
        CHECK.due("undo after questions alone", STATE, () -> x.undo());
    }
}

/** A SeriesBench that counts its calls: nothing is promised after the 512th, so no test may ask an object for more. */
final class Bench {
    static final int CALLS = 512;

    private final SeriesBench bench = new SeriesBench();
    private int calls;

    private SeriesBench asked() {
        if (calls >= CALLS) {
            throw new AssertionError("a test asks one object for more than " + CALLS + " calls");
        }
        calls++;
        return bench;
    }

    int left() {
        return CALLS - calls;
    }

    int begin(int slot, int states) {
        return asked().begin(slot, states);
    }

    int setEnd(int slot, int state, boolean end, int value) {
        return asked().setEnd(slot, state, end, value);
    }

    int setStep(int slot, int letter, int from, int to, int value) {
        return asked().setStep(slot, letter, from, to, value);
    }

    int random(int slot, int states, int seed) {
        return asked().random(slot, states, seed);
    }

    int states(int slot) {
        return asked().states(slot);
    }

    int end(int slot, int state, boolean end) {
        return asked().end(slot, state, end);
    }

    int step(int slot, int letter, int from, int to) {
        return asked().step(slot, letter, from, to);
    }

    int weight(int slot, int word) {
        return asked().weight(slot, word);
    }

    int powerWeight(int slot, int word, int times) {
        return asked().powerWeight(slot, word, times);
    }

    int total(int slot, int length) {
        return asked().total(slot, length);
    }

    int support(int slot, int limit) {
        return asked().support(slot, limit);
    }

    int first(int slot) {
        return asked().first(slot);
    }

    int combine(int to, int x, int y, int kind) {
        return asked().combine(to, x, y, kind);
    }

    int derive(int to, int x, int kind) {
        return asked().derive(to, x, kind);
    }

    int scale(int slot, int factor) {
        return asked().scale(slot, factor);
    }

    int dimension(int slot, int kind) {
        return asked().dimension(slot, kind);
    }

    int basisWord(int slot, int index) {
        return asked().basisWord(slot, index);
    }

    int differing(int x, int y) {
        return asked().differing(x, y);
    }

    int hankelRank(int slot, int size) {
        return asked().hankelRank(slot, size);
    }

    boolean recurs(int slot, int d) {
        return asked().recurs(slot, d);
    }

    int inverse(int x) {
        return asked().inverse(x);
    }

    int append(int value) {
        return asked().append(value);
    }

    int clearText() {
        return asked().clearText();
    }

    int parse(int slot) {
        return asked().parse(slot);
    }

    int undo() {
        return asked().undo();
    }

    long digest() {
        return asked().digest();
    }
}

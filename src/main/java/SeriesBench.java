import java.util.Arrays;

public final class SeriesBench {
    public static final int NONE = -1;

    private static final int PRIME = 10007;
    private static final int SLOTS = 4;
    private static final int STATES_MAX = 12;
    private static final int LETTERS = 2;
    private static final int WORD_MAX = 1000000;
    private static final int WORD_LENGTH_MAX = 19;
    private static final int TIMES_MAX = 200;
    private static final int LENGTH_MAX = 2000;
    private static final int LIMIT_MAX = 4095;
    private static final int SEED_MAX = 999999;
    private static final int HANKEL_MAX = 31;
    private static final int ORDER_MAX = 12;
    private static final int RECURRENCES = 31;
    private static final int TEXT_MAX = 60;
    private static final int BYTE_MAX = 127;
    private static final int DEPTH_MAX = 8;
    private static final int DIGITS_MAX = 4;
    private static final int SAVED_MAX = 4;
    private static final int SYNTAX_BASE = -10;
    private static final int IMPOSSIBLE = -2;
    private static final int HASH_START = 3019;
    private static final int HASH_FACTOR = 31;

    // An equivalence test explores the difference of two automata, which has the states of both.
    private static final int BASIS_MAX = 2 * STATES_MAX;
    // The longest word that support asks for has 11 letters, the longest of hankelRank 8.
    private static final int PATH_MAX = 11;

    private static final int KIND_SUM = 0;
    private static final int KIND_HADAMARD = 1;
    private static final int KIND_CAUCHY = 2;

    private static final int KIND_COPY = 0;
    private static final int KIND_REVERSAL = 1;
    private static final int KIND_STAR = 2;
    private static final int KIND_QUOTIENT_A = 3;
    private static final int KIND_QUOTIENT_B = 4;
    private static final int KIND_REDUCED = 5;
    private static final int KIND_MINIMAL = 6;

    private static final int SPACE_FORWARD = 0;
    private static final int SPACE_BACKWARD = 1;
    private static final int SPACE_MINIMAL = 2;

    private final Automaton[] slots;
    // Every undoable call changes one slot, so a saved state is that slot as it was.
    private final Automaton[] saved;
    private final int[] savedSlots;
    private int savedCount;
    // What calls compute with is made once, since the room for all calls of a run is small.
    private final Automaton scratch;
    private final Automaton difference;
    private final Walk walk;
    private final Path path;
    private final Basis basis;
    private final Grid grid;
    private final int[] totals;
    private final Expression expression;

    public SeriesBench() {
        slots = automata(SLOTS);
        saved = automata(SAVED_MAX);
        savedSlots = new int[SAVED_MAX];
        savedCount = 0;
        scratch = new Automaton(STATES_MAX);
        difference = new Automaton(BASIS_MAX);
        walk = new Walk();
        path = new Path();
        basis = new Basis();
        grid = new Grid();
        totals = new int[RECURRENCES + ORDER_MAX];
        expression = new Expression();
    }

    // ---- automata

    public int begin(int slot, int states) throws IndexOutOfBoundsException, IllegalArgumentException {
        checkSlot(slot);
        checkRange(states, 0, STATES_MAX);
        Automaton automaton = slots[slot];
        int before = automaton.size;
        save(slot);
        automaton.clear(states);
        return before;
    }

    public int setEnd(int slot, int state, boolean end, int value)
            throws IndexOutOfBoundsException, IllegalArgumentException {
        checkSlot(slot);
        checkState(slot, state);
        checkRange(value, 0, PRIME - 1);
        int[] numbers = slots[slot].ends(end);
        int before = numbers[state];
        save(slot);
        numbers[state] = value;
        return before;
    }

    public int setStep(int slot, int letter, int from, int to, int value)
            throws IndexOutOfBoundsException, IllegalArgumentException {
        checkSlot(slot);
        checkStep(slot, letter, from, to);
        checkRange(value, 0, PRIME - 1);
        Automaton automaton = slots[slot];
        int place = from * automaton.size + to;
        int before = automaton.matrix[letter][place];
        save(slot);
        automaton.matrix[letter][place] = value;
        return before;
    }

    public int random(int slot, int states, int seed) throws IndexOutOfBoundsException, IllegalArgumentException {
        checkSlot(slot);
        checkRange(states, 0, STATES_MAX);
        checkRange(seed, 0, SEED_MAX);
        save(slot);
        slots[slot].draw(states, seed);
        return slots[slot].emptyWeight();
    }

    public int states(int slot) throws IndexOutOfBoundsException {
        checkSlot(slot);
        return slots[slot].size;
    }

    public int end(int slot, int state, boolean end) throws IndexOutOfBoundsException {
        checkSlot(slot);
        checkState(slot, state);
        return slots[slot].ends(end)[state];
    }

    public int step(int slot, int letter, int from, int to) throws IndexOutOfBoundsException {
        checkSlot(slot);
        checkStep(slot, letter, from, to);
        Automaton automaton = slots[slot];
        return automaton.matrix[letter][from * automaton.size + to];
    }

    // ---- weights

    public int weight(int slot, int word) throws IndexOutOfBoundsException, IllegalArgumentException {
        checkSlot(slot);
        checkRange(word, 0, WORD_MAX);
        walk.start(slots[slot]);
        walk.takeWord(slots[slot], word);
        return walk.value(slots[slot]);
    }

    public int powerWeight(int slot, int word, int times) throws IndexOutOfBoundsException, IllegalArgumentException {
        checkSlot(slot);
        checkRange(word, 0, WORD_MAX);
        checkRange(times, 0, TIMES_MAX);
        walk.start(slots[slot]);
        for (int i = 0; i < times; i++) {
            walk.takeWord(slots[slot], word);
        }
        return walk.value(slots[slot]);
    }

    public int total(int slot, int length) throws IndexOutOfBoundsException, IllegalArgumentException {
        checkSlot(slot);
        checkRange(length, 0, LENGTH_MAX);
        walk.start(slots[slot]);
        for (int i = 0; i < length; i++) {
            walk.takeBoth(slots[slot]);
        }
        return walk.value(slots[slot]);
    }

    public int support(int slot, int limit) throws IndexOutOfBoundsException, IllegalArgumentException {
        checkSlot(slot);
        checkRange(limit, 0, LIMIT_MAX);
        path.start(slots[slot]);
        int count = 0;
        for (int word = 0; word < limit; word++) {
            if (path.weigh(slots[slot], word) != 0) {
                count++;
            }
        }
        return count;
    }

    public int first(int slot) throws IndexOutOfBoundsException {
        checkSlot(slot);
        basis.explore(slots[slot]);
        return basis.firstWeighted();
    }

    // ---- operations

    public int combine(int to, int x, int y, int kind)
            throws IndexOutOfBoundsException, IllegalArgumentException, IllegalStateException {
        checkSlot(to);
        checkSlot(x);
        checkSlot(y);
        checkRange(kind, KIND_SUM, KIND_CAUCHY);
        Automaton left = slots[x];
        Automaton right = slots[y];
        int count = kind == KIND_HADAMARD ? left.size * right.size : left.size + right.size;
        if (count > STATES_MAX) {
            throw new IllegalStateException("too many states");
        }
        if (kind == KIND_SUM) {
            scratch.becomeSum(left, right);
        } else if (kind == KIND_HADAMARD) {
            scratch.becomeHadamard(left, right);
        } else {
            scratch.becomeCauchy(left, right);
        }
        return store(to);
    }

    public int derive(int to, int x, int kind)
            throws IndexOutOfBoundsException, IllegalArgumentException, IllegalStateException {
        checkSlot(to);
        checkSlot(x);
        checkRange(kind, KIND_COPY, KIND_MINIMAL);
        Automaton source = slots[x];
        if (kind == KIND_STAR && !source.hasStar()) {
            throw new IllegalStateException("no star");
        }
        scratch.copyFrom(source);
        switch (kind) {
            case KIND_REVERSAL:
                scratch.reverse();
                break;
            case KIND_STAR:
                scratch.becomeStar(source);
                break;
            case KIND_QUOTIENT_A:
                scratch.startAfter(source, 0);
                break;
            case KIND_QUOTIENT_B:
                scratch.startAfter(source, 1);
                break;
            case KIND_REDUCED:
                basis.reduce(scratch);
                break;
            case KIND_MINIMAL:
                basis.minimize(scratch);
                break;
            default:
                break;
        }
        return store(to);
    }

    public int scale(int slot, int factor) throws IndexOutOfBoundsException, IllegalArgumentException {
        checkSlot(slot);
        checkRange(factor, 0, PRIME - 1);
        save(slot);
        Automaton automaton = slots[slot];
        multiply(automaton.initial, factor, automaton.size);
        return automaton.emptyWeight();
    }

    // ---- spaces and equivalence

    public int dimension(int slot, int kind) throws IndexOutOfBoundsException, IllegalArgumentException {
        checkSlot(slot);
        checkRange(kind, SPACE_FORWARD, SPACE_MINIMAL);
        return spaceSize(slot, kind);
    }

    public int basisWord(int slot, int index) throws IndexOutOfBoundsException {
        checkSlot(slot);
        basis.explore(slots[slot]);
        if (index < 0 || index >= basis.count) {
            throw new IndexOutOfBoundsException("no such basis word");
        }
        return basis.words[index];
    }

    public int differing(int x, int y) throws IndexOutOfBoundsException {
        checkSlot(x);
        checkSlot(y);
        difference.becomeDifference(slots[x], slots[y]);
        basis.explore(difference);
        return basis.firstWeighted();
    }

    public int hankelRank(int slot, int size) throws IndexOutOfBoundsException, IllegalArgumentException {
        checkSlot(slot);
        checkRange(size, 0, HANKEL_MAX);
        path.start(slots[slot]);
        for (int i = 0; i < size; i++) {
            for (int j = 0; j < size; j++) {
                grid.rows[i][j] = path.weigh(slots[slot], joinedWord(i, j));
            }
        }
        return grid.rank(size, size);
    }

    public boolean recurs(int slot, int d) throws IndexOutOfBoundsException, IllegalArgumentException {
        checkSlot(slot);
        checkRange(d, 1, ORDER_MAX);
        collectTotals(slot, RECURRENCES + d);
        fillRecurrences(d);
        int unknowns = grid.rank(RECURRENCES, d);
        fillRecurrences(d);
        return grid.rank(RECURRENCES, d + 1) == unknowns;
    }

    public int inverse(int x) throws IllegalArgumentException {
        checkRange(x, 1, PRIME - 1);
        return reciprocal(x);
    }

    // ---- text

    public int append(int value) throws IllegalArgumentException, IllegalStateException {
        checkRange(value, 0, BYTE_MAX);
        if (expression.length >= TEXT_MAX) {
            throw new IllegalStateException("the text is full");
        }
        expression.text[expression.length] = value;
        expression.length++;
        return expression.length;
    }

    public int clearText() {
        int before = expression.length;
        expression.length = 0;
        return before;
    }

    public int parse(int slot) throws IndexOutOfBoundsException {
        checkSlot(slot);
        int position = expression.syntaxError();
        if (position != NONE) {
            return SYNTAX_BASE - position;
        }
        if (!expression.evaluate(basis)) {
            return IMPOSSIBLE;
        }
        scratch.copyFrom(expression.sums[0]);
        return store(slot);
    }

    // ---- state

    public int undo() throws IllegalStateException {
        if (savedCount <= 0) {
            throw new IllegalStateException("nothing is saved");
        }
        savedCount--;
        slots[savedSlots[savedCount]].copyFrom(saved[savedCount]);
        return savedCount;
    }

    public long digest() {
        long h = HASH_FACTOR * (long) HASH_START + expression.length;
        for (int slot = 0; slot < SLOTS; slot++) {
            h = slots[slot].hash(h);
            for (int kind = SPACE_FORWARD; kind <= SPACE_MINIMAL; kind++) {
                h = HASH_FACTOR * h + spaceSize(slot, kind);
            }
        }
        return HASH_FACTOR * h + savedCount;
    }

    // ---- the parts of the calls

    private static Automaton[] automata(int count) {
        Automaton[] made = new Automaton[count];
        for (int i = 0; i < count; i++) {
            made[i] = new Automaton(STATES_MAX);
        }
        return made;
    }

    private static void checkSlot(int slot) throws IndexOutOfBoundsException {
        if (slot < 0 || slot >= SLOTS) {
            throw new IndexOutOfBoundsException("no such slot");
        }
    }

    private void checkState(int slot, int state) throws IndexOutOfBoundsException {
        if (state < 0 || state >= slots[slot].size) {
            throw new IndexOutOfBoundsException("no such state");
        }
    }

    private void checkStep(int slot, int letter, int from, int to) throws IndexOutOfBoundsException {
        if (letter < 0 || letter >= LETTERS) {
            throw new IndexOutOfBoundsException("no such letter");
        }
        checkState(slot, from);
        checkState(slot, to);
    }

    private static void checkRange(int value, int least, int most) throws IllegalArgumentException {
        if (value < least || value > most) {
            throw new IllegalArgumentException("out of range");
        }
    }

    private void save(int slot) {
        if (savedCount >= SAVED_MAX) {
            dropOldest();
        }
        savedSlots[savedCount] = slot;
        saved[savedCount].copyFrom(slots[slot]);
        savedCount++;
    }

    private void dropOldest() {
        Automaton oldest = saved[0];
        for (int i = 1; i < SAVED_MAX; i++) {
            saved[i - 1] = saved[i];
            savedSlots[i - 1] = savedSlots[i];
        }
        saved[SAVED_MAX - 1] = oldest;
        savedCount = SAVED_MAX - 1;
    }

    private int store(int slot) {
        save(slot);
        slots[slot].copyFrom(scratch);
        return scratch.size;
    }

    private int spaceSize(int slot, int kind) {
        scratch.copyFrom(slots[slot]);
        if (kind == SPACE_BACKWARD) {
            scratch.reverse();
        }
        if (kind == SPACE_MINIMAL) {
            basis.minimize(scratch);
        } else {
            basis.reduce(scratch);
        }
        return scratch.size;
    }

    private void collectTotals(int slot, int count) {
        walk.start(slots[slot]);
        for (int i = 0; i < count; i++) {
            totals[i] = walk.value(slots[slot]);
            walk.takeBoth(slots[slot]);
        }
    }

    private void fillRecurrences(int d) {
        for (int n = 0; n < RECURRENCES; n++) {
            for (int k = 0; k <= d; k++) {
                grid.rows[n][k] = totals[n + k];
            }
        }
    }

    // The number of a word, plus 1, is in binary a 1 followed by its letters: a is 0, b is 1.
    private static int lengthOf(int word) {
        int length = 0;
        for (int rest = (word + 1) >> 1; rest > 0; rest >>= 1) {
            length++;
        }
        return length;
    }

    private static int joinedWord(int head, int tail) {
        int marker = 1 << lengthOf(tail);
        return (head + 1) * marker + (tail + 1 - marker) - 1;
    }

    private static int reciprocal(int x) {
        int result = 1;
        int power = x;
        for (int exponent = PRIME - 2; exponent > 0; exponent >>= 1) {
            if ((exponent & 1) == 1) {
                result = result * power % PRIME;
            }
            power = power * power % PRIME;
        }
        return result;
    }

    private static void addMultiple(int[] row, int factor, int[] other, int width) {
        for (int j = 0; j < width; j++) {
            row[j] = (row[j] + factor * other[j]) % PRIME;
        }
    }

    private static void multiply(int[] row, int factor, int width) {
        for (int j = 0; j < width; j++) {
            row[j] = row[j] * factor % PRIME;
        }
    }

    private static int firstNonZero(int[] row, int width) {
        for (int j = 0; j < width; j++) {
            if (row[j] != 0) {
                return j;
            }
        }
        return NONE;
    }

    private static final class Automaton {
        int size;
        final int[] initial;
        final int[] last;
        // matrix[letter][from * size + to]
        final int[][] matrix;

        Automaton(int most) {
            size = 0;
            initial = new int[most];
            last = new int[most];
            matrix = new int[LETTERS][most * most];
        }

        int[] ends(boolean end) {
            return end ? last : initial;
        }

        void clear(int count) {
            size = count;
            Arrays.fill(initial, 0, count, 0);
            Arrays.fill(last, 0, count, 0);
            for (int letter = 0; letter < LETTERS; letter++) {
                Arrays.fill(matrix[letter], 0, count * count, 0);
            }
        }

        void copyFrom(Automaton other) {
            size = other.size;
            System.arraycopy(other.initial, 0, initial, 0, size);
            System.arraycopy(other.last, 0, last, 0, size);
            for (int letter = 0; letter < LETTERS; letter++) {
                System.arraycopy(other.matrix[letter], 0, matrix[letter], 0, size * size);
            }
        }

        void draw(int count, int seed) {
            size = count;
            long s = seed;
            for (int i = 0; i < count; i++) {
                s = nextDraw(s);
                initial[i] = drawn(s);
                s = nextDraw(s);
                last[i] = drawn(s);
            }
            for (int letter = 0; letter < LETTERS; letter++) {
                for (int k = 0; k < count * count; k++) {
                    s = nextDraw(s);
                    matrix[letter][k] = drawn(s);
                }
            }
        }

        private static long nextDraw(long s) {
            return (1103515245L * s + 12345L) % 2147483648L;
        }

        private static int drawn(long s) {
            return (int) (s / 65536L % 4L);
        }

        void becomeNumber(int value) {
            clear(1);
            initial[0] = 1;
            last[0] = value;
        }

        void becomeLetter(int letter) {
            clear(2);
            initial[0] = 1;
            last[1] = 1;
            matrix[letter][1] = 1;
        }

        void becomeSum(Automaton x, Automaton y) {
            clear(x.size + y.size);
            placeBlock(x, 0);
            placeBlock(y, x.size);
        }

        void becomeDifference(Automaton x, Automaton y) {
            becomeSum(x, y);
            for (int i = x.size; i < size; i++) {
                initial[i] = (PRIME - initial[i]) % PRIME;
            }
        }

        private void placeBlock(Automaton part, int offset) {
            int count = part.size;
            System.arraycopy(part.initial, 0, initial, offset, count);
            System.arraycopy(part.last, 0, last, offset, count);
            for (int letter = 0; letter < LETTERS; letter++) {
                for (int i = 0; i < count; i++) {
                    System.arraycopy(part.matrix[letter], i * count,
                            matrix[letter], (offset + i) * size + offset, count);
                }
            }
        }

        void becomeHadamard(Automaton x, Automaton y) {
            size = x.size * y.size;
            for (int i = 0; i < x.size; i++) {
                for (int j = 0; j < y.size; j++) {
                    int state = y.size * i + j;
                    initial[state] = x.initial[i] * y.initial[j] % PRIME;
                    last[state] = x.last[i] * y.last[j] % PRIME;
                    for (int letter = 0; letter < LETTERS; letter++) {
                        placeProducts(x, i, y, j, letter);
                    }
                }
            }
        }

        private void placeProducts(Automaton x, int i, Automaton y, int j, int letter) {
            int start = (y.size * i + j) * size;
            for (int k = 0; k < x.size; k++) {
                int ofX = x.matrix[letter][i * x.size + k];
                for (int l = 0; l < y.size; l++) {
                    int ofY = y.matrix[letter][j * y.size + l];
                    matrix[letter][start + y.size * k + l] = ofX * ofY % PRIME;
                }
            }
        }

        void becomeCauchy(Automaton x, Automaton y) {
            becomeSum(x, y);
            int n = x.size;
            multiply(last, y.emptyWeight(), n);
            int headWeight = x.emptyWeight();
            for (int i = n; i < size; i++) {
                initial[i] = initial[i] * headWeight % PRIME;
            }
            for (int letter = 0; letter < LETTERS; letter++) {
                for (int i = 0; i < n; i++) {
                    int leaving = x.stepThenLast(letter, i);
                    for (int j = 0; j < y.size; j++) {
                        matrix[letter][i * size + n + j] = leaving * y.initial[j] % PRIME;
                    }
                }
            }
        }

        boolean hasStar() {
            return size < STATES_MAX && emptyWeight() == 0;
        }

        void becomeStar(Automaton x) {
            clear(x.size + 1);
            placeBlock(x, 1);
            Arrays.fill(initial, 0, size, 0);
            Arrays.fill(last, 0, size, 0);
            initial[0] = 1;
            last[0] = 1;
            for (int letter = 0; letter < LETTERS; letter++) {
                int around = 0;
                for (int i = 0; i < x.size; i++) {
                    int leaving = x.stepThenLast(letter, i);
                    around = (around + x.initial[i] * leaving) % PRIME;
                    matrix[letter][(1 + i) * size] = leaving;
                    matrix[letter][1 + i] = x.initialThenStep(letter, i);
                }
                matrix[letter][0] = around;
            }
        }

        // Asks for a copy of x, whose initial numbers are still needed while those here change.
        void startAfter(Automaton x, int letter) {
            for (int j = 0; j < size; j++) {
                initial[j] = x.initialThenStep(letter, j);
            }
        }

        void reverse() {
            for (int i = 0; i < size; i++) {
                int number = initial[i];
                initial[i] = last[i];
                last[i] = number;
            }
            for (int letter = 0; letter < LETTERS; letter++) {
                transpose(matrix[letter]);
            }
        }

        private void transpose(int[] numbers) {
            for (int i = 0; i < size; i++) {
                for (int j = 0; j < i; j++) {
                    int number = numbers[i * size + j];
                    numbers[i * size + j] = numbers[j * size + i];
                    numbers[j * size + i] = number;
                }
            }
        }

        // The next three leave out the numbers 0, which the automata of expressions are full of.
        int weightFrom(int[] row) {
            int sum = 0;
            for (int i = 0; i < size; i++) {
                if (row[i] != 0) {
                    sum = (sum + row[i] * last[i]) % PRIME;
                }
            }
            return sum;
        }

        void addStep(int[] row, int letter, int[] result) {
            int[] numbers = matrix[letter];
            for (int i = 0; i < size; i++) {
                int factor = row[i];
                if (factor != 0) {
                    int start = i * size;
                    for (int j = 0; j < size; j++) {
                        result[j] = (result[j] + factor * numbers[start + j]) % PRIME;
                    }
                }
            }
        }

        void takeStep(int[] row, int letter, int[] result) {
            Arrays.fill(result, 0, size, 0);
            addStep(row, letter, result);
        }

        int emptyWeight() {
            return weightFrom(initial);
        }

        private int initialThenStep(int letter, int to) {
            int sum = 0;
            for (int i = 0; i < size; i++) {
                sum = (sum + initial[i] * matrix[letter][i * size + to]) % PRIME;
            }
            return sum;
        }

        private int stepThenLast(int letter, int from) {
            int sum = 0;
            for (int j = 0; j < size; j++) {
                sum = (sum + matrix[letter][from * size + j] * last[j]) % PRIME;
            }
            return sum;
        }

        long hash(long start) {
            long h = HASH_FACTOR * start + size;
            for (int i = 0; i < size; i++) {
                h = HASH_FACTOR * h + initial[i];
                h = HASH_FACTOR * h + last[i];
            }
            for (int letter = 0; letter < LETTERS; letter++) {
                for (int k = 0; k < size * size; k++) {
                    h = HASH_FACTOR * h + matrix[letter][k];
                }
            }
            return h;
        }
    }

    private static final class Walk {
        private int[] row = new int[STATES_MAX];
        private int[] next = new int[STATES_MAX];

        void start(Automaton automaton) {
            System.arraycopy(automaton.initial, 0, row, 0, automaton.size);
        }

        void takeWord(Automaton automaton, int word) {
            int code = word + 1;
            for (int k = WORD_LENGTH_MAX - 1; k >= 0; k--) {
                if (code >> (k + 1) != 0) {
                    automaton.takeStep(row, (code >> k) & 1, next);
                    swap();
                }
            }
        }

        void takeBoth(Automaton automaton) {
            Arrays.fill(next, 0, automaton.size, 0);
            for (int letter = 0; letter < LETTERS; letter++) {
                automaton.addStep(row, letter, next);
            }
            swap();
        }

        int value(Automaton automaton) {
            return automaton.weightFrom(row);
        }

        private void swap() {
            int[] kept = row;
            row = next;
            next = kept;
        }
    }

    // Words that follow one another in their order share most of their prefixes,
    // so the vectors of the last word's prefixes are kept.
    private static final class Path {
        private final int[] prefixes = new int[PATH_MAX + 1];
        private final int[][] rows = new int[PATH_MAX + 1][STATES_MAX];

        void start(Automaton automaton) {
            Arrays.fill(prefixes, 0);
            System.arraycopy(automaton.initial, 0, rows[0], 0, automaton.size);
        }

        int weigh(Automaton automaton, int word) {
            int length = Math.min(lengthOf(word), PATH_MAX);
            for (int k = 1; k <= length; k++) {
                int prefix = (word + 1) >> (length - k);
                if (prefixes[k] != prefix) {
                    automaton.takeStep(rows[k - 1], prefix & 1, rows[k]);
                    prefixes[k] = prefix;
                }
            }
            return automaton.weightFrom(rows[length]);
        }
    }

    private static final class Basis {
        int count;
        final int[] words = new int[BASIS_MAX];
        private final int[] weights = new int[BASIS_MAX];
        private final int[][] vectors = new int[BASIS_MAX][BASIS_MAX];
        // Row k of echelon is 1 at pivots[k], 0 at the pivots before,
        // and the sum of the basis vectors times the numbers in row k of parts.
        private final int[][] echelon = new int[BASIS_MAX][BASIS_MAX];
        private final int[][] parts = new int[BASIS_MAX][BASIS_MAX];
        private final int[] pivots = new int[BASIS_MAX];
        // The coordinates of basis vector k after a letter are in row LETTERS * k + letter.
        private final int[][] images = new int[LETTERS * BASIS_MAX][BASIS_MAX];
        private final int[] trial = new int[BASIS_MAX];
        private final int[] rest = new int[BASIS_MAX];
        private final int[] coordinates = new int[BASIS_MAX];

        void explore(Automaton automaton) {
            int width = automaton.size;
            count = 0;
            System.arraycopy(automaton.initial, 0, trial, 0, width);
            place(automaton, 0);
            for (int k = 0; k < count && k < BASIS_MAX; k++) {
                for (int letter = 0; letter < LETTERS; letter++) {
                    automaton.takeStep(vectors[k], letter, trial);
                    place(automaton, 2 * words[k] + 1 + letter);
                    System.arraycopy(coordinates, 0, images[LETTERS * k + letter], 0, width);
                }
            }
        }

        // The basis accounts for as much of the trial vector as coordinates says;
        // if something is left, the trial vector joins the basis.
        private void place(Automaton automaton, int word) {
            int width = automaton.size;
            System.arraycopy(trial, 0, rest, 0, width);
            Arrays.fill(coordinates, 0, width, 0);
            for (int k = 0; k < count; k++) {
                int factor = rest[pivots[k]];
                if (factor != 0) {
                    addMultiple(rest, PRIME - factor, echelon[k], width);
                    addMultiple(coordinates, factor, parts[k], width);
                }
            }
            int pivot = firstNonZero(rest, width);
            if (pivot != NONE && count < BASIS_MAX) {
                words[count] = word;
                weights[count] = automaton.weightFrom(trial);
                pivots[count] = pivot;
                extend(reciprocal(rest[pivot]), width);
            }
        }

        private void extend(int scaling, int width) {
            int k = count;
            for (int j = 0; j < width; j++) {
                vectors[k][j] = trial[j];
                echelon[k][j] = rest[j] * scaling % PRIME;
                parts[k][j] = coordinates[j] * (PRIME - scaling) % PRIME;
                coordinates[j] = 0;
            }
            parts[k][k] = scaling;
            coordinates[k] = 1;
            count++;
        }

        // A word that is no basis word has the vector of a sum of smaller basis words,
        // so the first word with a weight other than 0 is a basis word.
        int firstWeighted() {
            int index = firstNonZero(weights, count);
            return index == NONE ? NONE : words[index];
        }

        private void build(Automaton result) {
            result.clear(count);
            System.arraycopy(weights, 0, result.last, 0, count);
            for (int k = 0; k < count; k++) {
                result.initial[k] = k == 0 ? 1 : 0;
                for (int letter = 0; letter < LETTERS; letter++) {
                    System.arraycopy(images[LETTERS * k + letter], 0, result.matrix[letter], k * count, count);
                }
            }
        }

        void reduce(Automaton automaton) {
            explore(automaton);
            build(automaton);
        }

        void minimize(Automaton automaton) {
            for (int pass = 0; pass < 2; pass++) {
                explore(automaton);
                build(automaton);
                automaton.reverse();
            }
        }
    }

    private static final class Grid {
        final int[][] rows = new int[HANKEL_MAX][HANKEL_MAX];

        int rank(int height, int width) {
            int found = 0;
            for (int column = 0; column < width && found < height; column++) {
                if (raisePivot(found, height, column)) {
                    clearBelow(found, height, column, width);
                    found++;
                }
            }
            return found;
        }

        private boolean raisePivot(int top, int height, int column) {
            for (int i = top; i < height; i++) {
                if (rows[i][column] != 0) {
                    int[] row = rows[i];
                    rows[i] = rows[top];
                    rows[top] = row;
                    return true;
                }
            }
            return false;
        }

        private void clearBelow(int top, int height, int column, int width) {
            int scaling = PRIME - reciprocal(rows[top][column]);
            for (int i = top + 1; i < height; i++) {
                int factor = rows[i][column] * scaling % PRIME;
                if (factor != 0) {
                    addMultiple(rows[i], factor, rows[top], width);
                }
            }
        }
    }

    private static final class Expression {
        final int[] text = new int[TEXT_MAX];
        int length;
        // For each depth of parentheses: the sum of the products before, and the product of the factors before.
        final Automaton[] sums = automata(DEPTH_MAX + 1);
        private final boolean[] hasSum = new boolean[DEPTH_MAX + 1];
        private final Automaton[] products = automata(DEPTH_MAX + 1);
        private final boolean[] hasProduct = new boolean[DEPTH_MAX + 1];
        // The factor read last stays apart from its product until no star can follow.
        private final Automaton factor = new Automaton(STATES_MAX);
        private boolean hasFactor;
        private final Automaton joined = new Automaton(STATES_MAX);

        // A number above 10006 has five digits at least, of which the fifth is refused already.
        int syntaxError() {
            int depth = 0;
            int digits = 0;
            boolean expectsFactor = true;
            for (int at = 0; at < length; at++) {
                int sign = text[at];
                digits = isDigit(sign) ? digits + 1 : 0;
                if (digits > DIGITS_MAX || !canStand(sign, expectsFactor, depth)) {
                    return at;
                }
                if (sign == '(') {
                    depth++;
                } else if (sign == ')') {
                    depth--;
                }
                expectsFactor = sign == '(' || sign == '+';
            }
            return expectsFactor || depth > 0 ? length : NONE;
        }

        private static boolean isDigit(int sign) {
            return sign >= '0' && sign <= '9';
        }

        private static boolean canStand(int sign, boolean expectsFactor, int depth) {
            switch (sign) {
                case 'a':
                case 'b':
                    return true;
                case '(':
                    return depth < DEPTH_MAX;
                case ')':
                    return !expectsFactor && depth > 0;
                case '+':
                case '*':
                    return !expectsFactor;
                default:
                    return isDigit(sign);
            }
        }

        // Asks for a text without a syntax error; the result is in sums[0].
        boolean evaluate(Basis basis) {
            int depth = 0;
            hasFactor = false;
            open(depth);
            boolean possible = true;
            for (int at = 0; at < length && possible; at++) {
                int sign = text[at];
                if (sign == '*') {
                    possible = repeatFactor(basis);
                } else if (sign == '+') {
                    possible = closeFactor(depth, basis) && closeProduct(depth, basis);
                } else if (sign == ')') {
                    possible = closeFactor(depth, basis) && closeProduct(depth, basis);
                    factor.copyFrom(sums[depth]);
                    hasFactor = true;
                    depth = Math.max(depth - 1, 0);
                } else if (isDigit(sign) && at > 0 && isDigit(text[at - 1])) {
                    factor.last[0] = (10 * factor.last[0] + sign - '0') % PRIME;
                } else {
                    possible = closeFactor(depth, basis);
                    if (sign == '(') {
                        depth = Math.min(depth + 1, DEPTH_MAX);
                        open(depth);
                    } else {
                        beginFactor(sign);
                    }
                }
            }
            return possible && closeFactor(depth, basis) && closeProduct(depth, basis);
        }

        private void open(int depth) {
            hasSum[depth] = false;
            hasProduct[depth] = false;
        }

        private void beginFactor(int sign) {
            if (isDigit(sign)) {
                factor.becomeNumber(sign - '0');
            } else {
                factor.becomeLetter(sign == 'b' ? 1 : 0);
            }
            hasFactor = true;
        }

        private boolean repeatFactor(Basis basis) {
            if (!factor.hasStar()) {
                return false;
            }
            joined.becomeStar(factor);
            basis.minimize(joined);
            factor.copyFrom(joined);
            return true;
        }

        private boolean closeFactor(int depth, Basis basis) {
            if (!hasFactor) {
                return true;
            }
            hasFactor = false;
            Automaton product = products[depth];
            if (!hasProduct[depth]) {
                hasProduct[depth] = true;
                product.copyFrom(factor);
                return true;
            }
            if (product.size + factor.size > STATES_MAX) {
                return false;
            }
            joined.becomeCauchy(product, factor);
            basis.minimize(joined);
            product.copyFrom(joined);
            return true;
        }

        private boolean closeProduct(int depth, Basis basis) {
            Automaton product = products[depth];
            Automaton sum = sums[depth];
            hasProduct[depth] = false;
            if (!hasSum[depth]) {
                hasSum[depth] = true;
                sum.copyFrom(product);
                return true;
            }
            if (sum.size + product.size > STATES_MAX) {
                return false;
            }
            joined.becomeSum(sum, product);
            basis.minimize(joined);
            sum.copyFrom(joined);
            return true;
        }
    }
}

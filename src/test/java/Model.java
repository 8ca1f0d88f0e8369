import java.util.ArrayList;
import java.util.List;

/**
 * A second SeriesBench, written from the document alone, without regard to cost: every operation makes new
 * automata, every saved state is the whole state, words are strings, and linear systems are solved from scratch.
 */
final class Model {
    static final long P = 10007;

    static final class Auto {
        final int n;
        final long[] init;
        final long[] fin;
        final long[][][] mat;

        Auto(int n) {
            this.n = n;
            init = new long[n];
            fin = new long[n];
            mat = new long[2][n][n];
        }

        Auto copy() {
            Auto c = new Auto(n);
            for (int i = 0; i < n; i++) {
                c.init[i] = init[i];
                c.fin[i] = fin[i];
                for (int j = 0; j < n; j++) {
                    c.mat[0][i][j] = mat[0][i][j];
                    c.mat[1][i][j] = mat[1][i][j];
                }
            }
            return c;
        }
    }

    private static final class Impossible extends RuntimeException {
        private static final long serialVersionUID = 1;
    }

    private static final class Syntax extends RuntimeException {
        private static final long serialVersionUID = 1;
        final int position;

        Syntax(int position) {
            this.position = position;
        }
    }

    private Auto[] slots = {new Auto(0), new Auto(0), new Auto(0), new Auto(0)};
    private final List<Auto[]> saved = new ArrayList<>();
    private String text = "";

    // ---- words

    static String letters(int word) {
        return word == 0 ? "" : letters((word - 1) / 2) + (word % 2 == 1 ? "a" : "b");
    }

    static int number(String word) {
        int number = 0;
        for (char c : word.toCharArray()) {
            number = 2 * number + (c == 'a' ? 1 : 2);
        }
        return number;
    }

    // ---- linear algebra

    static long power(long x, long e) {
        return e == 0 ? 1 : power(x * x % P, e / 2) * (e % 2 == 1 ? x : 1) % P;
    }

    static long[] times(long[] row, long[][] m) {
        long[] r = new long[row.length];
        for (int j = 0; j < row.length; j++) {
            for (int i = 0; i < row.length; i++) {
                r[j] = (r[j] + row[i] * m[i][j]) % P;
            }
        }
        return r;
    }

    static long[] times(long[][] m, long[] column) {
        long[] r = new long[column.length];
        for (int i = 0; i < column.length; i++) {
            r[i] = dot(m[i], column);
        }
        return r;
    }

    static long dot(long[] x, long[] y) {
        long sum = 0;
        for (int i = 0; i < x.length; i++) {
            sum = (sum + x[i] * y[i]) % P;
        }
        return sum;
    }

    /** Numbers c with target = c0 * vectors0 + c1 * vectors1 + ..., or null if there are none. */
    static long[] solve(List<long[]> vectors, long[] target) {
        int unknowns = vectors.size();
        int rows = target.length;
        long[][] a = new long[rows][unknowns + 1];
        for (int i = 0; i < rows; i++) {
            for (int k = 0; k < unknowns; k++) {
                a[i][k] = vectors.get(k)[i];
            }
            a[i][unknowns] = target[i];
        }
        long[] solution = new long[unknowns];
        int[] place = new int[unknowns];
        int used = 0;
        for (int k = 0; k < unknowns; k++) {
            place[k] = -1;
            for (int i = used; i < rows; i++) {
                if (a[i][k] != 0) {
                    long[] swap = a[i];
                    a[i] = a[used];
                    a[used] = swap;
                    place[k] = used++;
                    break;
                }
            }
            if (place[k] >= 0) {
                long[] pivot = a[place[k]];
                long inv = power(pivot[k], P - 2);
                for (int j = 0; j <= unknowns; j++) {
                    pivot[j] = pivot[j] * inv % P;
                }
                for (int i = 0; i < rows; i++) {
                    long f = a[i][k];
                    if (i != place[k] && f != 0) {
                        for (int j = 0; j <= unknowns; j++) {
                            a[i][j] = ((a[i][j] - f * pivot[j]) % P + P) % P;
                        }
                    }
                }
            }
        }
        for (int i = used; i < rows; i++) {
            if (a[i][unknowns] != 0) {
                return null;
            }
        }
        for (int k = 0; k < unknowns; k++) {
            solution[k] = place[k] >= 0 ? a[place[k]][unknowns] : 0;
        }
        return solution;
    }

    // ---- automata

    static long[] vector(Auto x, String word) {
        long[] v = x.init;
        for (char c : word.toCharArray()) {
            v = times(v, x.mat[c - 'a']);
        }
        return v;
    }

    static int weigh(Auto x, String word) {
        return (int) dot(vector(x, word), x.fin);
    }

    static Auto sumOf(Auto x, Auto y) {
        Auto r = new Auto(x.n + y.n);
        for (int i = 0; i < r.n; i++) {
            r.init[i] = i < x.n ? x.init[i] : y.init[i - x.n];
            r.fin[i] = i < x.n ? x.fin[i] : y.fin[i - x.n];
            for (int j = 0; j < r.n; j++) {
                for (int l = 0; l < 2; l++) {
                    if (i < x.n && j < x.n) {
                        r.mat[l][i][j] = x.mat[l][i][j];
                    } else if (i >= x.n && j >= x.n) {
                        r.mat[l][i][j] = y.mat[l][i - x.n][j - x.n];
                    }
                }
            }
        }
        return r;
    }

    static Auto hadamardOf(Auto x, Auto y) {
        Auto r = new Auto(x.n * y.n);
        for (int p = 0; p < r.n; p++) {
            r.init[p] = x.init[p / y.n] * y.init[p % y.n] % P;
            r.fin[p] = x.fin[p / y.n] * y.fin[p % y.n] % P;
            for (int q = 0; q < r.n; q++) {
                for (int l = 0; l < 2; l++) {
                    r.mat[l][p][q] = x.mat[l][p / y.n][q / y.n] * y.mat[l][p % y.n][q % y.n] % P;
                }
            }
        }
        return r;
    }

    static Auto cauchyOf(Auto x, Auto y) {
        Auto r = sumOf(x, y);
        for (int j = 0; j < y.n; j++) {
            r.init[x.n + j] = y.init[j] * weigh(x, "") % P;
        }
        for (int i = 0; i < x.n; i++) {
            r.fin[i] = x.fin[i] * weigh(y, "") % P;
            for (int j = 0; j < y.n; j++) {
                for (int l = 0; l < 2; l++) {
                    r.mat[l][i][x.n + j] = times(x.mat[l], x.fin)[i] * y.init[j] % P;
                }
            }
        }
        return r;
    }

    static Auto starOf(Auto x) {
        Auto r = new Auto(x.n + 1);
        r.init[0] = 1;
        r.fin[0] = 1;
        for (int l = 0; l < 2; l++) {
            r.mat[l][0][0] = dot(times(x.init, x.mat[l]), x.fin);
            for (int i = 0; i < x.n; i++) {
                r.mat[l][0][1 + i] = times(x.init, x.mat[l])[i];
                r.mat[l][1 + i][0] = times(x.mat[l], x.fin)[i];
                for (int j = 0; j < x.n; j++) {
                    r.mat[l][1 + i][1 + j] = x.mat[l][i][j];
                }
            }
        }
        return r;
    }

    static Auto reversalOf(Auto x) {
        Auto r = new Auto(x.n);
        for (int i = 0; i < x.n; i++) {
            r.init[i] = x.fin[i];
            r.fin[i] = x.init[i];
            for (int j = 0; j < x.n; j++) {
                r.mat[0][i][j] = x.mat[0][j][i];
                r.mat[1][i][j] = x.mat[1][j][i];
            }
        }
        return r;
    }

    static Auto quotientOf(Auto x, int letter) {
        Auto r = x.copy();
        long[] init = times(x.init, x.mat[letter]);
        System.arraycopy(init, 0, r.init, 0, x.n);
        return r;
    }

    static List<String> basisOf(Auto x) {
        List<String> words = new ArrayList<>();
        List<long[]> vectors = new ArrayList<>();
        List<String> waiting = new ArrayList<>();
        waiting.add("");
        while (!waiting.isEmpty()) {
            String word = waiting.remove(0);
            if (solve(vectors, vector(x, word)) == null) {
                words.add(word);
                vectors.add(vector(x, word));
                waiting.add(word + "a");
                waiting.add(word + "b");
            }
        }
        return words;
    }

    static Auto forwardOf(Auto x) {
        List<String> words = basisOf(x);
        List<long[]> vectors = new ArrayList<>();
        for (String word : words) {
            vectors.add(vector(x, word));
        }
        Auto r = new Auto(words.size());
        for (int k = 0; k < r.n; k++) {
            r.init[k] = k == 0 ? 1 : 0;
            r.fin[k] = weigh(x, words.get(k));
            for (int l = 0; l < 2; l++) {
                r.mat[l][k] = solve(vectors, times(vectors.get(k), x.mat[l]));
            }
        }
        return r;
    }

    static Auto minimalOf(Auto x) {
        return reversalOf(forwardOf(reversalOf(forwardOf(x))));
    }

    static boolean same(Auto x, Auto y) {
        return x.n == y.n && java.util.Arrays.equals(x.init, y.init) && java.util.Arrays.equals(x.fin, y.fin)
                && java.util.Arrays.deepEquals(x.mat, y.mat);
    }

    /** The first word below a limit whose weight is not 0, from the vectors of all words in their order. */
    static int firstBelow(Auto x, int limit) {
        long[][] vectors = new long[limit][];
        for (int w = 0; w < limit; w++) {
            vectors[w] = w == 0 ? x.init : times(vectors[(w - 1) / 2], x.mat[(w + 1) % 2]);
            if (dot(vectors[w], x.fin) != 0) {
                return w;
            }
        }
        return -1;
    }

    // ---- the checks of arguments

    private static void slotIs(int slot) {
        index(slot, 4);
    }

    private static void index(int i, int size) {
        if (i < 0 || i >= size) {
            throw new IndexOutOfBoundsException();
        }
    }

    private static void argument(long value, long least, long most) {
        if (value < least || value > most) {
            throw new IllegalArgumentException();
        }
    }

    private static void state(boolean holds) {
        if (!holds) {
            throw new IllegalStateException();
        }
    }

    private int put(int slot, Auto x) {
        saved.add(slots.clone());
        if (saved.size() > 4) {
            saved.remove(0);
        }
        slots[slot] = x;
        return x.n;
    }

    // ---- the calls

    int begin(int slot, int states) {
        slotIs(slot);
        argument(states, 0, 12);
        int before = slots[slot].n;
        put(slot, new Auto(states));
        return before;
    }

    int setEnd(int slot, int state, boolean end, int value) {
        slotIs(slot);
        index(state, slots[slot].n);
        argument(value, 0, 10006);
        int before = end(slot, state, end);
        Auto x = slots[slot].copy();
        (end ? x.fin : x.init)[state] = value;
        put(slot, x);
        return before;
    }

    int setStep(int slot, int letter, int from, int to, int value) {
        slotIs(slot);
        index(letter, 2);
        index(from, slots[slot].n);
        index(to, slots[slot].n);
        argument(value, 0, 10006);
        int before = step(slot, letter, from, to);
        Auto x = slots[slot].copy();
        x.mat[letter][from][to] = value;
        put(slot, x);
        return before;
    }

    int random(int slot, int states, int seed) {
        slotIs(slot);
        argument(states, 0, 12);
        argument(seed, 0, 999999);
        Auto x = new Auto(states);
        long[] s = {seed};
        for (int i = 0; i < states; i++) {
            x.init[i] = draw(s);
            x.fin[i] = draw(s);
        }
        for (int l = 0; l < 2; l++) {
            for (int i = 0; i < states; i++) {
                for (int j = 0; j < states; j++) {
                    x.mat[l][i][j] = draw(s);
                }
            }
        }
        put(slot, x);
        return weigh(x, "");
    }

    private static long draw(long[] s) {
        s[0] = Math.floorMod(1103515245L * s[0] + 12345L, 1L << 31);
        return (s[0] >> 16) & 3;
    }

    int states(int slot) {
        slotIs(slot);
        return slots[slot].n;
    }

    int end(int slot, int state, boolean end) {
        slotIs(slot);
        index(state, slots[slot].n);
        return (int) (end ? slots[slot].fin : slots[slot].init)[state];
    }

    int step(int slot, int letter, int from, int to) {
        slotIs(slot);
        index(letter, 2);
        index(from, slots[slot].n);
        index(to, slots[slot].n);
        return (int) slots[slot].mat[letter][from][to];
    }

    int weight(int slot, int word) {
        slotIs(slot);
        argument(word, 0, 1000000);
        return weigh(slots[slot], letters(word));
    }

    int powerWeight(int slot, int word, int times) {
        slotIs(slot);
        argument(word, 0, 1000000);
        argument(times, 0, 200);
        return weigh(slots[slot], letters(word).repeat(times));
    }

    int total(int slot, int length) {
        slotIs(slot);
        argument(length, 0, 2000);
        return (int) totals(slots[slot], length + 1)[length];
    }

    private static long[] totals(Auto x, int count) {
        long[] totals = new long[count];
        long[] v = x.init;
        for (int k = 0; k < count; k++) {
            totals[k] = dot(v, x.fin);
            long[] a = times(v, x.mat[0]);
            long[] b = times(v, x.mat[1]);
            v = new long[x.n];
            for (int i = 0; i < x.n; i++) {
                v[i] = (a[i] + b[i]) % P;
            }
        }
        return totals;
    }

    int support(int slot, int limit) {
        slotIs(slot);
        argument(limit, 0, 4095);
        int count = 0;
        for (int w = 0; w < limit; w++) {
            count += weigh(slots[slot], letters(w)) != 0 ? 1 : 0;
        }
        return count;
    }

    int first(int slot) {
        slotIs(slot);
        return firstBelow(slots[slot], 4095);
    }

    int combine(int to, int x, int y, int kind) {
        slotIs(to);
        slotIs(x);
        slotIs(y);
        argument(kind, 0, 2);
        Auto l = slots[x];
        Auto r = slots[y];
        state((kind == 1 ? l.n * r.n : l.n + r.n) <= 12);
        return put(to, kind == 0 ? sumOf(l, r) : kind == 1 ? hadamardOf(l, r) : cauchyOf(l, r));
    }

    int derive(int to, int x, int kind) {
        slotIs(to);
        slotIs(x);
        argument(kind, 0, 6);
        Auto a = slots[x];
        state(kind != 2 || weigh(a, "") == 0 && a.n < 12);
        switch (kind) {
            case 0: return put(to, a);
            case 1: return put(to, reversalOf(a));
            case 2: return put(to, starOf(a));
            case 3: return put(to, quotientOf(a, 0));
            case 4: return put(to, quotientOf(a, 1));
            case 5: return put(to, forwardOf(a));
            default: return put(to, minimalOf(a));
        }
    }

    int scale(int slot, int factor) {
        slotIs(slot);
        argument(factor, 0, 10006);
        Auto x = slots[slot].copy();
        for (int i = 0; i < x.n; i++) {
            x.init[i] = x.init[i] * factor % P;
        }
        put(slot, x);
        return weigh(x, "");
    }

    int dimension(int slot, int kind) {
        slotIs(slot);
        argument(kind, 0, 2);
        Auto x = slots[slot];
        return kind == 0 ? basisOf(x).size() : kind == 1 ? basisOf(reversalOf(x)).size() : minimalOf(x).n;
    }

    int basisWord(int slot, int index) {
        slotIs(slot);
        List<String> words = basisOf(slots[slot]);
        index(index, words.size());
        return number(words.get(index));
    }

    int differing(int x, int y) {
        slotIs(x);
        slotIs(y);
        if (same(minimalOf(slots[x]), minimalOf(slots[y]))) {
            return -1;
        }
        Auto minus = slots[y].copy();
        for (int i = 0; i < minus.n; i++) {
            minus.init[i] = (P - minus.init[i]) % P;
        }
        Auto difference = sumOf(slots[x], minus);
        int word = firstBelow(difference, 4095);
        for (String basisWord : word == -1 ? basisOf(difference) : new ArrayList<String>()) {
            if (word == -1 && weigh(difference, basisWord) != 0) {
                word = number(basisWord);
            }
        }
        return word;
    }

    int hankelRank(int slot, int size) {
        slotIs(slot);
        argument(size, 0, 31);
        List<long[]> independent = new ArrayList<>();
        for (int i = 0; i < size; i++) {
            long[] row = new long[size];
            for (int j = 0; j < size; j++) {
                row[j] = weigh(slots[slot], letters(i) + letters(j));
            }
            if (solve(independent, row) == null) {
                independent.add(row);
            }
        }
        return independent.size();
    }

    boolean recurs(int slot, int d) {
        slotIs(slot);
        argument(d, 1, 12);
        long[] totals = totals(slots[slot], 31 + d);
        List<long[]> shifted = new ArrayList<>();
        for (int k = 0; k < d; k++) {
            shifted.add(java.util.Arrays.copyOfRange(totals, k, k + 31));
        }
        return solve(shifted, java.util.Arrays.copyOfRange(totals, d, d + 31)) != null;
    }

    int inverse(int x) {
        argument(x, 1, 10006);
        for (int y = 1; y < P; y++) {
            if ((long) x * y % P == 1) {
                return y;
            }
        }
        return -1;
    }

    int append(int value) {
        argument(value, 0, 127);
        state(text.length() < 60);
        text += (char) value;
        return text.length();
    }

    int clearText() {
        int length = text.length();
        text = "";
        return length;
    }

    // ---- parsing: a tree first, so that a syntax error is found before anything is computed

    private abstract static class Node {
        abstract Auto make();
    }

    private static Node leaf(Auto x) {
        return new Node() {
            Auto make() {
                return x;
            }
        };
    }

    private static Node binary(boolean cauchy, Node l, Node r) {
        return new Node() {
            Auto make() {
                Auto x = l.make();
                Auto y = r.make();
                if (x.n + y.n > 12) {
                    throw new Impossible();
                }
                return minimalOf(cauchy ? cauchyOf(x, y) : sumOf(x, y));
            }
        };
    }

    private static Node star(Node inner) {
        return new Node() {
            Auto make() {
                Auto x = inner.make();
                if (weigh(x, "") != 0 || x.n + 1 > 12) {
                    throw new Impossible();
                }
                return minimalOf(starOf(x));
            }
        };
    }

    private int at;

    private char next() {
        return at < text.length() ? text.charAt(at) : (char) 200;
    }

    private Node readSum(int depth) {
        Node node = readProduct(depth);
        while (next() == '+') {
            at++;
            node = binary(false, node, readProduct(depth));
        }
        return node;
    }

    private Node readProduct(int depth) {
        Node node = readFactor(depth);
        while (next() == 'a' || next() == 'b' || Character.isDigit(next()) || next() == '(') {
            node = binary(true, node, readFactor(depth));
        }
        return node;
    }

    private Node readFactor(int depth) {
        Node node;
        if (next() == 'a' || next() == 'b') {
            Auto x = new Auto(2);
            x.init[0] = 1;
            x.fin[1] = 1;
            x.mat[next() - 'a'][0][1] = 1;
            node = leaf(x);
            at++;
        } else if (Character.isDigit(next())) {
            int start = at;
            while (Character.isDigit(next())) {
                if (at == start + 4) {
                    throw new Syntax(at);
                }
                at++;
            }
            int value = Integer.parseInt(text.substring(start, at));
            if (value > 10006) {
                throw new Syntax(start);
            }
            Auto x = new Auto(1);
            x.init[0] = 1;
            x.fin[0] = value;
            node = leaf(x);
        } else if (next() == '(' && depth < 8) {
            at++;
            node = readSum(depth + 1);
            if (next() != ')') {
                throw new Syntax(at);
            }
            at++;
        } else {
            throw new Syntax(at);
        }
        while (next() == '*') {
            at++;
            node = star(node);
        }
        return node;
    }

    int parse(int slot) {
        slotIs(slot);
        try {
            at = 0;
            Node node = readSum(0);
            if (at < text.length()) {
                throw new Syntax(at);
            }
            return put(slot, node.make());
        } catch (Syntax e) {
            return -10 - e.position;
        } catch (Impossible e) {
            return -2;
        }
    }

    int undo() {
        state(!saved.isEmpty());
        slots = saved.remove(saved.size() - 1);
        return saved.size();
    }

    long digest() {
        long h = 3019;
        h = 31 * h + text.length();
        for (int slot = 0; slot < 4; slot++) {
            Auto x = slots[slot];
            h = 31 * h + x.n;
            for (int i = 0; i < x.n; i++) {
                h = 31 * h + x.init[i];
                h = 31 * h + x.fin[i];
            }
            for (int l = 0; l < 2; l++) {
                for (int i = 0; i < x.n; i++) {
                    for (int j = 0; j < x.n; j++) {
                        h = 31 * h + x.mat[l][i][j];
                    }
                }
            }
            for (int kind = 0; kind < 3; kind++) {
                h = 31 * h + dimension(slot, kind);
            }
        }
        return 31 * h + saved.size();
    }
}

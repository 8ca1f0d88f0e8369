/** Promises 14 to 16: combine, derive, scale. */
public final class OperationsTest {
    private static final Class<?> INDEX = IndexOutOfBoundsException.class;
    private static final Class<?> ARGUMENT = IllegalArgumentException.class;
    private static final Class<?> STATE = IllegalStateException.class;
    private static final Check CHECK = new Check("OperationsTest");
    private static final long P = 10007;

    public static void main(String[] args) {
        combineExactly();
        combineLargeNumbers();
        combineByWeights();
        combineRefuses();
        deriveExactly();
        deriveByWeights();
        reductions();
        deriveRefuses();
        scale();
        CHECK.end();
    }

    /** Sets an automaton from its initial and final numbers and its two matrices. */
    private static void make(Bench x, int slot, int[] initial, int[] last, int[][] a, int[][] b) {
        int n = initial.length;
        x.begin(slot, n);
        for (int i = 0; i < n; i++) {
            x.setEnd(slot, i, false, initial[i]);
            x.setEnd(slot, i, true, last[i]);
            for (int j = 0; j < n; j++) {
                x.setStep(slot, 0, i, j, a[i][j]);
                x.setStep(slot, 1, i, j, b[i][j]);
            }
        }
    }

    private static void holds(String what, Bench x, int slot, int[] initial, int[] last, int[][] a, int[][] b) {
        int n = initial.length;
        CHECK.due(what + ": states", n, () -> x.states(slot));
        for (int i = 0; i < n; i++) {
            int p = i;
            CHECK.due(what + ": initial " + i, initial[i], () -> x.end(slot, p, false));
            CHECK.due(what + ": final " + i, last[i], () -> x.end(slot, p, true));
            for (int j = 0; j < n; j++) {
                int q = j;
                CHECK.due(what + ": a " + i + " " + j, a[i][j], () -> x.step(slot, 0, p, q));
                CHECK.due(what + ": b " + i + " " + j, b[i][j], () -> x.step(slot, 1, p, q));
            }
        }
    }

    private static Bench example() {
        Bench x = new Bench();
        make(x, 0, new int[] {2, 3}, new int[] {5, 7}, new int[][] {{1, 2}, {3, 4}}, new int[][] {{0, 1}, {5, 0}});
        make(x, 1, new int[] {11}, new int[] {13}, new int[][] {{6}}, new int[][] {{10006}});
        return x;
    }

    private static void combineExactly() {
        Bench x = example();
        CHECK.due("combine sum", 3, () -> x.combine(2, 0, 1, 0));
        holds("sum", x, 2, new int[] {2, 3, 11}, new int[] {5, 7, 13},
                new int[][] {{1, 2, 0}, {3, 4, 0}, {0, 0, 6}}, new int[][] {{0, 1, 0}, {5, 0, 0}, {0, 0, 10006}});
        CHECK.due("combine Hadamard", 2, () -> x.combine(2, 0, 1, 1));
        holds("Hadamard", x, 2, new int[] {22, 33}, new int[] {65, 91},
                new int[][] {{6, 12}, {18, 24}}, new int[][] {{0, 10006}, {10002, 0}});
        // x's empty word weighs 31, y's 143; a's matrix times x's final column is (19, 43), b's (7, 25).
        CHECK.due("combine Cauchy", 3, () -> x.combine(2, 0, 1, 2));
        holds("Cauchy", x, 2, new int[] {2, 3, 341}, new int[] {715, 1001, 13},
                new int[][] {{1, 2, 209}, {3, 4, 473}, {0, 0, 6}},
                new int[][] {{0, 1, 77}, {5, 0, 275}, {0, 0, 10006}});
        // The other way round a's matrix times the final column is 78, b's 10007 - 13.
        CHECK.due("combine Cauchy the other way", 3, () -> x.combine(2, 1, 0, 2));
        holds("Cauchy the other way", x, 2, new int[] {11, 286, 429}, new int[] {403, 5, 7},
                new int[][] {{6, 156, 234}, {0, 1, 2}, {0, 3, 4}},
                new int[][] {{10006, 9981, 9968}, {0, 0, 1}, {0, 5, 0}});
        x.combine(2, 0, 0, 1);
        CHECK.due("the step from (0, 1) to (1, 0)", 2 * 3, () -> x.step(2, 0, 1, 2));
        CHECK.due("the initial number of (0, 1)", 6, () -> x.end(2, 1, false));
        CHECK.due("the initial number of (1, 1)", 9, () -> x.end(2, 3, false));
        CHECK.due("combine into its own part", 4, () -> x.combine(0, 0, 0, 0));
        CHECK.due("the second block", 4, () -> x.step(0, 0, 3, 3));
        CHECK.due("combine without states", 0, () -> x.combine(1, 3, 3, 0));
        CHECK.due("combine with one without states", 4, () -> x.combine(3, 3, 0, 2));
        CHECK.due("its final numbers", 5, () -> x.end(3, 0, true));
        CHECK.due("its initial numbers", 0, () -> x.end(3, 0, false));
    }

    private static void combineLargeNumbers() {
        Bench x = new Bench();
        int[][] large = {{10006}};
        int[][] next = {{10005}};
        make(x, 0, new int[] {10006}, new int[] {10005}, large, next);
        make(x, 1, new int[] {10005}, new int[] {10006}, next, large);
        x.combine(2, 0, 1, 1);
        holds("Hadamard of large numbers", x, 2, new int[] {2}, new int[] {2}, new int[][] {{2}}, new int[][] {{2}});
        // Both empty words weigh 2; a's matrix times the final column is 2, then b's 4.
        x.combine(2, 0, 1, 2);
        holds("Cauchy of large numbers", x, 2, new int[] {10006, 10003}, new int[] {10003, 10006},
                new int[][] {{10006, 10003}, {0, 10005}}, new int[][] {{10005, 9999}, {0, 10006}});
        x.derive(2, 0, 3);
        holds("quotient of large numbers", x, 2, new int[] {1}, new int[] {10005}, large, next);
    }

    private static void combineByWeights() {
        for (int seed = 1; seed <= 12; seed++) {
            Bench x = new Bench();
            x.random(0, 3, seed);
            x.random(1, 4, 1000 + seed);
            x.combine(2, 0, 1, 0);
            x.combine(3, 0, 1, 1);
            for (int word = 0; word < 31; word++) {
                int w = word;
                long l = x.weight(0, w);
                long r = x.weight(1, w);
                CHECK.due("weight in a sum", (l + r) % P, () -> x.weight(2, w));
                CHECK.due("weight in a Hadamard product", l * r % P, () -> x.weight(3, w));
            }
            x.combine(2, 0, 1, 2);
            for (int word = 0; word < 31; word++) {
                int w = word;
                String letters = Model.letters(w);
                long due = (long) x.weight(0, w) * x.weight(1, 0) % P;
                for (int cut = 0; cut <= letters.length(); cut++) {
                    long head = x.weight(0, Model.number(letters.substring(0, cut)));
                    due = (due + head * x.weight(1, Model.number(letters.substring(cut)))) % P;
                }
                long expected = due;
                CHECK.due("weight in a Cauchy product", expected, () -> x.weight(2, w));
            }
        }
    }

    private static void combineRefuses() {
        Bench x = new Bench();
        x.random(0, 6, 1);
        x.random(1, 7, 2);
        x.random(2, 2, 3);
        long before = x.digest();
        CHECK.due("combine into slot 4", INDEX, () -> x.combine(4, 0, 0, 3));
        CHECK.due("combine into slot -1", INDEX, () -> x.combine(-1, 0, 0, 0));
        CHECK.due("combine slot 4 with", INDEX, () -> x.combine(0, 4, 0, 0));
        CHECK.due("combine slot -1 with", INDEX, () -> x.combine(0, -1, 0, 0));
        CHECK.due("combine with slot 4", INDEX, () -> x.combine(0, 0, 4, 3));
        CHECK.due("combine with slot -1", INDEX, () -> x.combine(0, 0, -1, 0));
        CHECK.due("combine of kind 3", ARGUMENT, () -> x.combine(0, 1, 1, 3));
        CHECK.due("combine of kind -1", ARGUMENT, () -> x.combine(0, 0, 0, -1));
        CHECK.due("a sum with 13 states", STATE, () -> x.combine(3, 0, 1, 0));
        CHECK.due("a Cauchy product with 13 states", STATE, () -> x.combine(3, 1, 0, 2));
        CHECK.due("a Hadamard product with 14 states", STATE, () -> x.combine(3, 1, 2, 1));
        CHECK.due("digest after refused calls", before, () -> x.digest());
        CHECK.due("a Hadamard product with 12 states", 12, () -> x.combine(3, 0, 2, 1));
        CHECK.due("a sum with 12 states", 12, () -> x.combine(3, 0, 0, 0));
        CHECK.due("a Cauchy product with 12 states", 12, () -> x.combine(3, 0, 0, 2));
        CHECK.due("undo of a combine", 3, () -> x.undo());
        CHECK.due("the sum again", 0, () -> x.step(3, 0, 6, 0));
        x.begin(2, 0);
        CHECK.due("a Hadamard product of 7 and 0 states", 0, () -> x.combine(3, 1, 2, 1));
    }

    private static void deriveExactly() {
        Bench x = example();
        CHECK.due("derive a copy", 2, () -> x.derive(2, 0, 0));
        holds("copy", x, 2, new int[] {2, 3}, new int[] {5, 7}, new int[][] {{1, 2}, {3, 4}},
                new int[][] {{0, 1}, {5, 0}});
        x.setStep(2, 0, 0, 0, 9);
        CHECK.due("the source of a copy that is changed", 1, () -> x.step(0, 0, 0, 0));
        CHECK.due("derive the reversal", 2, () -> x.derive(2, 0, 1));
        holds("reversal", x, 2, new int[] {5, 7}, new int[] {2, 3}, new int[][] {{1, 3}, {2, 4}},
                new int[][] {{0, 5}, {1, 0}});
        CHECK.due("derive the quotient by a", 2, () -> x.derive(2, 0, 3));
        holds("quotient by a", x, 2, new int[] {11, 16}, new int[] {5, 7}, new int[][] {{1, 2}, {3, 4}},
                new int[][] {{0, 1}, {5, 0}});
        CHECK.due("derive the quotient by b in its place", 2, () -> x.derive(2, 2, 4));
        holds("quotient by b", x, 2, new int[] {80, 11}, new int[] {5, 7}, new int[][] {{1, 2}, {3, 4}},
                new int[][] {{0, 1}, {5, 0}});
        x.setEnd(0, 0, true, 10007 - 3);
        x.setEnd(0, 1, true, 2);
        // Now the final column is (-3, 2): a's matrix times it is (1, -1), b's (2, -15).
        CHECK.due("derive the star", 3, () -> x.derive(0, 0, 2));
        holds("star", x, 0, new int[] {1, 0, 0}, new int[] {1, 0, 0},
                new int[][] {{10006, 11, 16}, {1, 1, 2}, {10006, 3, 4}},
                new int[][] {{9966, 15, 2}, {2, 0, 1}, {9992, 5, 0}});
        CHECK.due("derive the star without states", 1, () -> x.derive(3, 3, 2));
        holds("star without states", x, 3, new int[] {1}, new int[] {1}, new int[][] {{0}}, new int[][] {{0}});
        x.begin(3, 0);
        for (int kind = 0; kind < 7; kind++) {
            int k = kind;
            if (kind != 2) {
                CHECK.due("derive " + kind + " without states", 0, () -> x.derive(3, 3, k));
            }
        }
    }

    private static void deriveByWeights() {
        for (int seed = 1; seed <= 8; seed++) {
            Bench x = withoutEmptyWord(seed);
            x.derive(1, 0, 1);
            x.derive(2, 0, 3);
            x.derive(3, 0, 4);
            for (int word = 0; word < 63; word++) {
                int w = word;
                String letters = Model.letters(w);
                int reversed = Model.number(new StringBuilder(letters).reverse().toString());
                CHECK.due("weight in a reversal", x.weight(0, reversed), () -> x.weight(1, w));
                CHECK.due("weight in a quotient by a", x.weight(0, Model.number("a" + letters)), () -> x.weight(2, w));
                CHECK.due("weight in a quotient by b", x.weight(0, Model.number("b" + letters)), () -> x.weight(3, w));
            }
            starByWeights(withoutEmptyWord(seed));
        }
    }

    /** A random automaton in slot 0, but for a final number that makes the empty word weigh 0. */
    private static Bench withoutEmptyWord(int seed) {
        Bench x = new Bench();
        x.random(0, 4, seed);
        x.setEnd(0, 0, false, 1);
        x.setEnd(0, 0, true, 0);
        x.setEnd(0, 0, true, (int) ((P - x.weight(0, 0)) % P));
        return x;
    }

    private static void starByWeights(Bench x) {
        x.derive(1, 0, 2);
        long[] due = new long[63];
        due[0] = 1;
        for (int word = 0; word < due.length; word++) {
            int w = word;
            String letters = Model.letters(w);
            for (int cut = 1; cut <= letters.length(); cut++) {
                long head = x.weight(0, Model.number(letters.substring(0, cut)));
                due[w] = (due[w] + head * due[Model.number(letters.substring(cut))]) % P;
            }
            CHECK.due("weight in a star", due[w], () -> x.weight(1, w));
        }
    }

    private static void reductions() {
        Bench x = new Bench();
        // a + a: the basis words are the empty word and a.
        make(x, 0, new int[] {1, 0, 1, 0}, new int[] {0, 1, 0, 1},
                new int[][] {{0, 1, 0, 0}, {0, 0, 0, 0}, {0, 0, 0, 1}, {0, 0, 0, 0}}, new int[4][4]);
        CHECK.due("forward reduction of a + a", 2, () -> x.derive(1, 0, 5));
        holds("forward reduction", x, 1, new int[] {1, 0}, new int[] {0, 2},
                new int[][] {{0, 1}, {0, 0}}, new int[2][2]);
        CHECK.due("the minimal one of a + a", 2, () -> x.derive(1, 0, 6));
        holds("minimal", x, 1, new int[] {0, 2}, new int[] {1, 0}, new int[][] {{0, 0}, {1, 0}}, new int[2][2]);
        // Row vectors (1, 2), then by a (3, 6), three times the first one, and by b (2, 4), twice it.
        make(x, 0, new int[] {1, 2}, new int[] {4, 5}, new int[][] {{1, 2}, {1, 2}}, new int[][] {{2, 0}, {0, 2}});
        CHECK.due("forward reduction to one state", 1, () -> x.derive(0, 0, 5));
        holds("one state", x, 0, new int[] {1}, new int[] {14}, new int[][] {{3}}, new int[][] {{2}});
        CHECK.due("the minimal one of it", 1, () -> x.derive(0, 0, 6));
        holds("one minimal state", x, 0, new int[] {14}, new int[] {1}, new int[][] {{3}}, new int[][] {{2}});
        // The vectors are (1, 1), (1, 2) by a, (1, 4) by aa: -2 times the first one and 3 times the second one.
        make(x, 0, new int[] {1, 1}, new int[] {1, 0}, new int[][] {{1, 0}, {0, 2}}, new int[][] {{0, 1}, {0, 0}});
        x.derive(1, 0, 5);
        // By b they are (0, 1) = second - first, both times.
        holds("coordinates", x, 1, new int[] {1, 0}, new int[] {1, 1},
                new int[][] {{0, 1}, {10005, 3}}, new int[][] {{10006, 1}, {10006, 1}});
        x.begin(0, 12);
        CHECK.due("forward reduction of nothing", 0, () -> x.derive(0, 0, 5));
        sameResults();
    }

    private static void sameResults() {
        for (int seed = 1; seed <= 10; seed++) {
            Bench x = new Bench();
            x.random(0, 3, seed);
            x.random(1, 2, seed + 50);
            x.combine(2, 0, 1, 1);
            x.combine(2, 2, 2, 0);
            x.derive(3, 2, 5);
            x.derive(3, 3, 1);
            x.derive(3, 3, 1);
            CHECK.due("a reduction is equivalent", -1, () -> x.differing(2, 3));
            x.scale(2, 7);
            x.derive(2, 2, 6);
            x.scale(3, 7);
            x.derive(3, 3, 6);
            int n = x.states(2);
            CHECK.due("the minimal one of an equivalent automaton", n, () -> x.states(3));
            for (int i = 0; i < n && n == x.states(3); i++) {
                int p = i;
                CHECK.due("its initial number", x.end(2, p, false), () -> x.end(3, p, false));
                CHECK.due("its final number", x.end(2, p, true), () -> x.end(3, p, true));
                for (int j = 0; j < n; j++) {
                    int q = j;
                    CHECK.due("its step by a", x.step(2, 0, p, q), () -> x.step(3, 0, p, q));
                    CHECK.due("its step by b", x.step(2, 1, p, q), () -> x.step(3, 1, p, q));
                }
            }
        }
    }

    private static void deriveRefuses() {
        Bench x = new Bench();
        x.begin(0, 12);
        x.random(1, 2, 1);
        x.begin(2, 11);
        long before = x.digest();
        CHECK.due("derive into slot 4", INDEX, () -> x.derive(4, 0, 7));
        CHECK.due("derive into slot -1", INDEX, () -> x.derive(-1, 0, 0));
        CHECK.due("derive from slot 4", INDEX, () -> x.derive(0, 4, 7));
        CHECK.due("derive from slot -1", INDEX, () -> x.derive(0, -1, 0));
        CHECK.due("derive of kind 7", ARGUMENT, () -> x.derive(0, 0, 7));
        CHECK.due("derive of kind -1", ARGUMENT, () -> x.derive(0, 0, -1));
        CHECK.due("a star with 13 states", STATE, () -> x.derive(3, 0, 2));
        CHECK.due("a star of a weight other than 0", STATE, () -> x.derive(3, 1, 2));
        CHECK.due("digest after refused calls", before, () -> x.digest());
        CHECK.due("a star with 12 states", 12, () -> x.derive(3, 2, 2));
        CHECK.due("undo of a derive", 3, () -> x.undo());
        CHECK.due("states after undo", 0, () -> x.states(3));
        for (int kind = 0; kind < 7; kind++) {
            int k = kind;
            if (kind != 2) {
                CHECK.due("derive " + kind + " from 12 states", kind > 4 ? 0 : 12, () -> x.derive(3, 0, k));
            }
        }
    }

    private static void scale() {
        Bench x = example();
        CHECK.due("scale", 31 * 3, () -> x.scale(0, 3));
        holds("scaled", x, 0, new int[] {6, 9}, new int[] {5, 7}, new int[][] {{1, 2}, {3, 4}},
                new int[][] {{0, 1}, {5, 0}});
        CHECK.due("scale with 10006", 10007 - 93, () -> x.scale(0, 10006));
        CHECK.due("an initial number scaled", 10001, () -> x.end(0, 0, false));
        CHECK.due("undo of a scale", 3, () -> x.undo());
        CHECK.due("an initial number after undo", 6, () -> x.end(0, 0, false));
        CHECK.due("scale with 0", 0, () -> x.scale(0, 0));
        CHECK.due("scale without states", 0, () -> x.scale(3, 5));
        CHECK.due("scale with 10007", ARGUMENT, () -> x.scale(0, 10007));
        CHECK.due("scale with -1", ARGUMENT, () -> x.scale(0, -1));
        CHECK.due("scale of slot 4", INDEX, () -> x.scale(4, 10007));
        CHECK.due("scale of slot -1", INDEX, () -> x.scale(-1, 0));
    }
}

/** Promises 17 to 22: dimension, basisWord, differing, hankelRank, recurs, inverse. */
public final class SpacesTest {
    private static final Class<?> INDEX = IndexOutOfBoundsException.class;
    private static final Class<?> ARGUMENT = IllegalArgumentException.class;
    private static final Class<?> STATE = IllegalStateException.class;
    private static final Check CHECK = new Check("SpacesTest");

    public static void main(String[] args) {
        Bench x = new Bench();
        dimension(x);
        basisWord(x);
        differing();
        hankelRank();
        recurs();
        inverse(x);
        nothingSaved();
        CHECK.end();
    }

    /** Makes states 0 to n - 1 in a row, joined by one letter, with initial 1 at the first one. */
    private static void chain(Bench x, int slot, int n, int letter) {
        x.begin(slot, n);
        x.setEnd(slot, 0, false, 1);
        for (int i = 0; i + 1 < n; i++) {
            x.setStep(slot, letter, i, i + 1, 1);
        }
    }

    private static void dimensions(Bench x, int slot, int forward, int backward, int minimal) {
        CHECK.due("the forward dimension", forward, () -> x.dimension(slot, 0));
        CHECK.due("the backward dimension", backward, () -> x.dimension(slot, 1));
        CHECK.due("the minimal dimension", minimal, () -> x.dimension(slot, 2));
    }

    private static void dimension(Bench x) {
        dimensions(x, 0, 0, 0, 0);
        chain(x, 0, 12, 0);
        dimensions(x, 0, 12, 0, 0);
        x.setEnd(0, 4, true, 1);
        dimensions(x, 0, 12, 5, 5);
        x.setEnd(0, 0, false, 0);
        dimensions(x, 0, 0, 5, 0);
        x.setEnd(0, 2, false, 1);
        dimensions(x, 0, 10, 5, 3);
        x.setEnd(0, 11, true, 1);
        dimensions(x, 0, 10, 12, 10);
        CHECK.due("dimension of kind 3", ARGUMENT, () -> x.dimension(0, 3));
        CHECK.due("dimension of kind -1", ARGUMENT, () -> x.dimension(0, -1));
        CHECK.due("dimension of slot 4", INDEX, () -> x.dimension(4, 3));
        CHECK.due("dimension of slot -1", INDEX, () -> x.dimension(-1, 0));
        CHECK.due("states after dimension", 12, () -> x.states(0));
        CHECK.due("a number after dimension", 1, () -> x.step(0, 0, 10, 11));
    }

    private static void basisWord(Bench x) {
        chain(x, 1, 12, 1);
        for (int index = 0; index < 12; index++) {
            int i = index;
            CHECK.due("basisWord(1, " + i + ")", (2 << i) - 2, () -> x.basisWord(1, i));
        }
        CHECK.due("basisWord beyond the last one", INDEX, () -> x.basisWord(1, 12));
        CHECK.due("basisWord -1", INDEX, () -> x.basisWord(1, -1));
        CHECK.due("basisWord without states", INDEX, () -> x.basisWord(2, 0));
        CHECK.due("basisWord of slot 4", INDEX, () -> x.basisWord(4, 0));
        CHECK.due("basisWord of slot -1", INDEX, () -> x.basisWord(-1, 0));
        // A tree: a to 1, b to 2, then ab to 3, ba to 1 again, bb to 4.
        x.begin(2, 5);
        x.setEnd(2, 0, false, 1);
        x.setStep(2, 0, 0, 1, 1);
        x.setStep(2, 1, 0, 2, 1);
        x.setStep(2, 1, 1, 3, 1);
        x.setStep(2, 0, 2, 1, 1);
        x.setStep(2, 1, 2, 4, 1);
        int[] words = {0, 1, 2, 4, 6};
        for (int index = 0; index < 5; index++) {
            int i = index;
            CHECK.due("basisWord of a tree", words[i], () -> x.basisWord(2, i));
        }
    }

    private static void differing() {
        Bench x = new Bench();
        CHECK.due("differing without states", -1, () -> x.differing(0, 1));
        chain(x, 0, 12, 0);
        CHECK.due("differing from nothing without final numbers", -1, () -> x.differing(0, 1));
        x.setEnd(0, 11, true, 1);
        CHECK.due("differing from nothing", 2047, () -> x.differing(0, 1));
        CHECK.due("differing the other way round", 2047, () -> x.differing(1, 0));
        CHECK.due("differing from itself", -1, () -> x.differing(0, 0));
        chain(x, 1, 12, 0);
        x.setEnd(1, 11, true, 1);
        CHECK.due("differing of equal ones", -1, () -> x.differing(0, 1));
        // Circles of 12 states that differ in their second turn alone: 23 letters a.
        x.setStep(0, 0, 11, 0, 1);
        x.setStep(1, 0, 11, 0, 2);
        CHECK.due("differing in 23 letters", 8388607, () -> x.differing(0, 1));
        x.setStep(1, 0, 11, 0, 0);
        x.setStep(1, 1, 11, 0, 1);
        CHECK.due("differing in a b at the end", 8388607, () -> x.differing(0, 1));
        x.setStep(0, 1, 3, 3, 5);
        CHECK.due("differing in a b in the middle", Model.number("aaabaaaaaaaa"), () -> x.differing(0, 1));
        x.random(2, 5, 9);
        x.derive(3, 2, 6);
        CHECK.due("differing from the minimal one", -1, () -> x.differing(2, 3));
        x.scale(3, 10006);
        x.scale(3, 10006);
        CHECK.due("differing from minus minus", -1, () -> x.differing(2, 3));
        x.scale(3, 2);
        int first = x.first(2);
        CHECK.due("differing from twice", first, () -> x.differing(2, 3));
        CHECK.due("differing of slot 4", INDEX, () -> x.differing(4, 0));
        CHECK.due("differing from slot 4", INDEX, () -> x.differing(0, 4));
        CHECK.due("differing of slot -1", INDEX, () -> x.differing(-1, 0));
        CHECK.due("differing from slot -1", INDEX, () -> x.differing(0, -1));
    }

    private static void hankelRank() {
        Bench x = new Bench();
        CHECK.due("hankelRank without states", 0, () -> x.hankelRank(0, 31));
        chain(x, 0, 3, 0);
        x.setEnd(0, 2, true, 1);
        // The word aa alone: with size 1 there is no aa, with 2 there is a a, with 4 also aa and nothing.
        int[] ranks = {0, 0, 1, 1, 3, 3};
        for (int size = 0; size < ranks.length; size++) {
            int s = size;
            CHECK.due("hankelRank(0, " + s + ")", ranks[s], () -> x.hankelRank(0, s));
        }
        // The word ab alone: its parts are nothing and ab, a and b, ab and nothing.
        x.setStep(0, 0, 1, 2, 0);
        x.setStep(0, 1, 1, 2, 1);
        int[] mixed = {0, 0, 0, 1, 1, 3, 3};
        for (int size = 0; size < mixed.length; size++) {
            int s = size;
            CHECK.due("hankelRank of ab with " + s, mixed[s], () -> x.hankelRank(0, s));
        }
        for (int seed = 1; seed < 6; seed++) {
            x.random(1, 2 * seed, seed);
            int minimal = x.dimension(1, 2);
            CHECK.due("hankelRank of 31 words", minimal, () -> x.hankelRank(1, 31));
        }
        x.random(1, 12, 4);
        CHECK.due("hankelRank of 12 states with 9 words", 9, () -> x.hankelRank(1, 9));
        CHECK.due("hankelRank with 32", ARGUMENT, () -> x.hankelRank(0, 32));
        CHECK.due("hankelRank with -1", ARGUMENT, () -> x.hankelRank(0, -1));
        CHECK.due("hankelRank of slot 4", INDEX, () -> x.hankelRank(4, 32));
        CHECK.due("hankelRank of slot -1", INDEX, () -> x.hankelRank(-1, 0));
    }

    private static void recurs() {
        Bench x = new Bench();
        CHECK.due("recurs without states", true, () -> x.recurs(0, 1));
        // The words a..a of each length: totals 1, 2, 4, ...
        x.begin(0, 1);
        x.setEnd(0, 0, false, 1);
        x.setEnd(0, 0, true, 1);
        x.setStep(0, 0, 0, 0, 1);
        x.setStep(0, 1, 0, 0, 1);
        CHECK.due("recurs of the powers of two", true, () -> x.recurs(0, 1));
        CHECK.due("recurs with an order above the least", true, () -> x.recurs(0, 12));
        // Fibonacci's numbers need two.
        x.begin(1, 2);
        x.setEnd(1, 0, false, 1);
        x.setEnd(1, 1, true, 1);
        x.setStep(1, 0, 0, 1, 1);
        x.setStep(1, 0, 1, 0, 1);
        x.setStep(1, 1, 1, 1, 1);
        CHECK.due("the sixth of Fibonacci's numbers", 8, () -> x.total(1, 6));
        CHECK.due("recurs of Fibonacci's numbers with 1", false, () -> x.recurs(1, 1));
        CHECK.due("recurs of Fibonacci's numbers with 2", true, () -> x.recurs(1, 2));
        // A chain's totals are 1 once, at the last state: only an order of all states does.
        chain(x, 2, 12, 0);
        x.setEnd(2, 11, true, 1);
        for (int d = 1; d <= 12; d++) {
            int order = d;
            CHECK.due("recurs(2, " + d + ") of a chain", d == 12, () -> x.recurs(2, order));
        }
        // The weights of a and b may cancel in each total.
        x.setStep(2, 1, 5, 6, 10006);
        CHECK.due("recurs where totals cancel", true, () -> x.recurs(2, 1));
        CHECK.due("recurs with 0", ARGUMENT, () -> x.recurs(0, 0));
        CHECK.due("recurs with 13", ARGUMENT, () -> x.recurs(0, 13));
        CHECK.due("recurs of slot 4", INDEX, () -> x.recurs(4, 13));
        CHECK.due("recurs of slot -1", INDEX, () -> x.recurs(-1, 1));
    }

    private static void inverse(Bench x) {
        Bench y = new Bench();
        for (int number = 1; number <= 10006; number++) {
            int n = number;
            Bench z = y.left() > 0 ? y : new Bench();
            CHECK.due("inverse(" + n + ") times it", 1L, () -> {
                int inverse = z.inverse(n);
                return inverse > 0 && inverse < 10007 ? (long) n * inverse % 10007 : inverse;
            });
            y = z;
        }
        CHECK.due("inverse(0)", ARGUMENT, () -> x.inverse(0));
        CHECK.due("inverse(-1)", ARGUMENT, () -> x.inverse(-1));
        CHECK.due("inverse(10007)", ARGUMENT, () -> x.inverse(10007));
    }

    private static void nothingSaved() {
        Bench x = new Bench();
        x.dimension(0, 2);
        x.differing(0, 1);
        x.hankelRank(0, 3);
        x.recurs(0, 1);
        x.inverse(3);
        CHECK.due("undo after questions alone", STATE, () -> x.undo());
    }
}

/** Promises 23 to 25: append, clearText, parse. */
public final class TextTest {
    private static final Class<?> INDEX = IndexOutOfBoundsException.class;
    private static final Class<?> ARGUMENT = IllegalArgumentException.class;
    private static final Class<?> STATE = IllegalStateException.class;
    private static final Check CHECK = new Check("TextTest");

    public static void main(String[] args) {
        append();
        clearText();
        syntax();
        impossible();
        automata();
        weights();
        saving();
        CHECK.end();
    }

    private static void write(Bench x, String text) {
        x.clearText();
        for (char c : text.toCharArray()) {
            x.append(c);
        }
    }

    private static void parses(Bench x, String text, int due) {
        write(x, text);
        CHECK.due("parse of " + text, due, () -> x.parse(1));
    }

    private static void append() {
        Bench x = new Bench();
        CHECK.due("append(-1)", ARGUMENT, () -> x.append(-1));
        CHECK.due("append(128)", ARGUMENT, () -> x.append(128));
        for (int length = 1; length <= 60; length++) {
            int l = length;
            CHECK.due("append " + l, l, () -> x.append(l % 2 == 0 ? 0 : 127));
        }
        CHECK.due("append to 60 bytes", STATE, () -> x.append(97));
        CHECK.due("append of 128 to 60 bytes", ARGUMENT, () -> x.append(128));
        CHECK.due("the length of the text", 60, () -> x.clearText());
    }

    private static void clearText() {
        Bench x = new Bench();
        CHECK.due("clearText", 0, () -> x.clearText());
        write(x, "ab");
        CHECK.due("clearText of two", 2, () -> x.clearText());
        CHECK.due("clearText again", 0, () -> x.clearText());
        CHECK.due("append after it", 1, () -> x.append('a'));
        CHECK.due("undo after texts alone", STATE, () -> x.undo());
    }

    private static void syntax() {
        Bench x = new Bench();
        parses(x, "", -10);
        parses(x, "+", -10);
        parses(x, "*", -10);
        parses(x, ")", -10);
        parses(x, " a", -10);
        parses(x, "c", -10);
        parses(x, "A", -10);
        parses(x, "/", -10);
        parses(x, ":", -10);
        parses(x, "a b", -11);
        parses(x, "a+", -12);
        parses(x, "a++b", -12);
        parses(x, "a+*", -12);
        parses(x, "a+)", -12);
        parses(x, "a)", -11);
        parses(x, "(", -11);
        parses(x, "()", -11);
        parses(x, "(*", -11);
        parses(x, "(+a)", -11);
        parses(x, "(a", -12);
        parses(x, "(a+", -13);
        parses(x, "(a))", -13);
        parses(x, "((a)", -14);
        parses(x, "12345", -14);
        parses(x, "a00000", -15);
        parses(x, "(9999)99991", -20);
        parses(x, "12\u0000", -12);
        parses(x, "((((((((a))))))))", 2);
        parses(x, "(((((((((a)))))))))", -18);
        parses(x, "((((((((a)(b)))))))", -29);
        parses(x, "((((((((a)(b))))))))", 3);
        parses(x, "(a)((((((((b))))))))", 3);
        parses(x, "(a)(((((((((b)))))))))", -21);
        // A syntax error counts before an operation that is not possible.
        parses(x, "1*)", -12);
        parses(x, "aaaaaaaaaaaaaaa+", -26);
        CHECK.due("parse of slot 4", INDEX, () -> x.parse(4));
        CHECK.due("parse of slot -1", INDEX, () -> x.parse(-1));
        write(x, "a");
        CHECK.due("parse of a text into slot 4", INDEX, () -> x.parse(4));
    }

    private static void impossible() {
        Bench x = new Bench();
        parses(x, "1*", -2);
        parses(x, "a**", -2);
        parses(x, "(a+1)*", -2);
        parses(x, "(a+1+10006)*", -19);
        parses(x, "(a+1+9999+7)*", 1);
        parses(x, "0*", 1);
        parses(x, "0**", -2);
        parses(x, "aaaaaaaaaa", 11);
        parses(x, "aaaaaaaaaaa", -2);
        parses(x, "(aaaaa)(aaaa)", 10);
        parses(x, "(aaaaa)(aaaaa)", 11);
        parses(x, "(aaaaaa)(aaaaa)", -2);
        parses(x, "aaaaaaaaaa+1", 11);
        parses(x, "aaaaaaaaaa+a", -2);
        parses(x, "(aaaaaaaaaa)*", 10);
        parses(x, "1+aaaaaaaaaaa", -2);
    }

    private static void automata() {
        Bench x = new Bench();
        parses(x, "a", 2);
        ends(x, new int[] {1, 0}, new int[] {0, 1});
        CHECK.due("the step of a", 1, () -> x.step(1, 0, 0, 1));
        CHECK.due("no step of b", 0, () -> x.step(1, 1, 0, 1));
        CHECK.due("no step back", 0, () -> x.step(1, 0, 1, 0));
        parses(x, "((b))", 2);
        ends(x, new int[] {1, 0}, new int[] {0, 1});
        CHECK.due("no step of a", 0, () -> x.step(1, 0, 0, 1));
        CHECK.due("the step of b", 1, () -> x.step(1, 1, 0, 1));
        parses(x, "9999", 1);
        ends(x, new int[] {1}, new int[] {9999});
        parses(x, "0", 1);
        ends(x, new int[] {1}, new int[] {0});
        parses(x, "0017", 1);
        ends(x, new int[] {1}, new int[] {17});
        parses(x, "0+0", 0);
        parses(x, "0a", 0);
        parses(x, "a0", 0);
        // a + a: as an automaton it is the minimal one, whose initial numbers hold the weights.
        parses(x, "a+a", 2);
        ends(x, new int[] {0, 2}, new int[] {1, 0});
        CHECK.due("the step of a + a", 1, () -> x.step(1, 0, 1, 0));
    }

    private static void ends(Bench x, int[] initial, int[] last) {
        CHECK.due("states", initial.length, () -> x.states(1));
        for (int i = 0; i < initial.length; i++) {
            int state = i;
            CHECK.due("initial number " + i, initial[i], () -> x.end(1, state, false));
            CHECK.due("final number " + i, last[i], () -> x.end(1, state, true));
        }
    }

    private static void weighs(Bench x, String text, int... weights) {
        write(x, text);
        x.parse(1);
        for (int word = 0; word < weights.length; word++) {
            int w = word;
            CHECK.due("weight of word " + w + " in " + text, weights[w], () -> x.weight(1, w));
        }
    }

    private static void weights() {
        Bench x = new Bench();
        weighs(x, "a+b+b+3", 3, 1, 2, 0, 0, 0, 0);
        weighs(x, "ab", 0, 0, 0, 0, 1, 0, 0);
        weighs(x, "a+ba", 0, 1, 0, 0, 0, 1, 0);
        weighs(x, "(a+b)a", 0, 0, 0, 1, 0, 1, 0);
        weighs(x, "ab*", 0, 2, 0, 0, 1, 0, 0);
        weighs(x, "a*", 1, 1, 0, 1, 0, 0, 0);
        weighs(x, "(ab)*", 1, 0, 0, 0, 1, 0, 0, 0, 0, 0, 0, 0, 0, 0, 0, 0, 0, 0, 0, 0, 1);
        weighs(x, "(a+2b)*", 1, 1, 2, 1, 2, 2, 4);
        // The empty second word counts twice in each product.
        weighs(x, "1(1)", 2, 0, 0);
        weighs(x, "1(1)(1)", 4, 0, 0);
        weighs(x, "11", 11, 0, 0);
        weighs(x, "1(1a)", 0, 1, 0);
        weighs(x, "1(a1)", 0, 2, 0);
        weighs(x, "a3", 0, 6, 0);
        weighs(x, "3a", 0, 3, 0);
        weighs(x, "2*3", 0);
        weighs(x, "a1b", 0, 0, 0, 0, 2);
        weighs(x, "a*b*", 2, 2, 1, 2, 1, 0, 1);
        CHECK.due("the text stays", 4, () -> x.clearText());
    }

    private static void saving() {
        Bench x = new Bench();
        write(x, "a+");
        CHECK.due("parse of a text that ends too early", -12, () -> x.parse(1));
        write(x, "1*");
        CHECK.due("parse of a star that is not possible", -2, () -> x.parse(1));
        CHECK.due("undo after parses below 0", STATE, () -> x.undo());
        write(x, "ab");
        x.parse(1);
        write(x, "b*");
        x.parse(1);
        x.parse(2);
        CHECK.due("undo of a parse", 2, () -> x.undo());
        CHECK.due("states of the slot", 0, () -> x.states(2));
        CHECK.due("states of the other slot", 1, () -> x.states(1));
        CHECK.due("undo of a parse again", 1, () -> x.undo());
        CHECK.due("states of the other slot then", 3, () -> x.states(1));
        write(x, "0+0");
        CHECK.due("parse of nothing", 0, () -> x.parse(1));
        CHECK.due("undo of it", 1, () -> x.undo());
        write(x, "b)");
        CHECK.due("parse that changes nothing", -11, () -> x.parse(1));
        CHECK.due("states after it", 3, () -> x.states(1));
    }
}

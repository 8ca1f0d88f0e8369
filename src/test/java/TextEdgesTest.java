/** Promises 23 to 25, sentence by sentence: the last value that is allowed and the first that isn't. */
public final class TextEdgesTest extends Edges {
    public static void main(String[] args) {
        new TextEdgesTest().run();
    }

    /** 60 bytes, a sum of 41. */
    private static final String FULL = "1+".repeat(29) + "12";

    private static Script text(String text) {
        return x -> {
            FOUR.run(x);
            x.clearText();
            write(x, text);
        };
    }

    private static Script textAlone(String text) {
        return x -> write(x, text);
    }

    // ---- Promise 23: append

    @Sentence(of = "Promise 23", says = "Appends a byte to the expression text.")
    void promise23_at_the_end() {
        Bench x = made(textAlone("ab"));
        x.append('*');
        x.parse(0);
        // ab*: a weighs 2, abb weighs 1; b weighs nothing.
        due(2, x, y -> y.weight(0, 1));
        due(1, x, y -> y.weight(0, 10));
        due(0, x, y -> y.weight(0, 2));
        due(0, x, y -> y.undo());
    }

    @Sentence(of = "Promise 23", says = "`value`: the byte, 0 to 127")
    void promise23_value_is_0_to_127() {
        for (int value : row(0, 1, 126, 127)) {
            due(3, FOUR, x -> x.append(value));
            due(1, NEW, x -> x.append(value));
        }
        // None of them is another byte: 97 is a, and 97 + 128 is refused.
        due(2, textAlone("a"), x -> x.parse(0));
        refusedOutside(0, 127, ARGUMENT, FOUR, (x, value) -> x.append(value));
        refusedWith(ARGUMENT, FOUR, (x, value) -> x.append(value), 97 + 128, 97 - 128, 255, 256, 97 + 256);
    }

    @Sentence(of = "Promise 23", says = "Returns the new length of the text.")
    void promise23_returns_1_to_60() {
        Bench x = made(NEW);
        for (int length = 1; length <= 60; length++) {
            int sign = length % 128;
            due(length, x, y -> y.append(sign));
        }
        due(STATE, x, y -> y.append('a'));
        x.clearText();
        due(1, x, y -> y.append('a'));
    }

    @Sentence(of = "Promise 23", says = "Throws `IllegalArgumentException` if value is out of range")
    void promise23_value_out_of_range() {
        refusedOutside(0, 127, ARGUMENT, NEW, (x, value) -> x.append(value));
        refusedOutside(0, 127, ARGUMENT, textAlone(FULL.substring(1)), (x, value) -> x.append(value));
        // In a full text, too.
        refusedOutside(0, 127, ARGUMENT, textAlone(FULL), (x, value) -> x.append(value));
    }

    @Sentence(of = "Promise 23", says = "Throws `IllegalStateException` if the text has 60 bytes")
    void promise23_text_has_60_bytes() {
        due(60, textAlone(FULL.substring(1)), x -> x.append('1'));
        for (int value : row(0, 48, 97, 127)) {
            refused(STATE, textAlone(FULL), x -> x.append(value));
            refused(STATE, text(FULL), x -> x.append(value));
        }
        Bench x = made(textAlone(FULL));
        due(STATE, x, y -> y.append('0'));
        due(1, x, y -> y.parse(0));
        due(41, x, y -> y.weight(0, 0));
        due(60, x, y -> y.clearText());
    }

    // ---- Promise 24: clearText

    @Sentence(of = "Promise 24", says = "Empties the expression text.")
    void promise24_empties_the_text() {
        for (String before : new String[] {"", "a", FULL}) {
            Bench x = made(textAlone(before));
            x.clearText();
            due(-10, x, y -> y.parse(0));
            due(1, x, y -> y.append('b'));
            x.parse(0);
            due(1, x, y -> y.weight(0, 2));
            due(2, x, y -> y.states(0));
        }
        // The slots and the saved states stay.
        Bench x = made(FOUR);
        x.clearText();
        due(4, x, y -> y.states(3));
        due(3, x, y -> y.undo());
    }

    @Sentence(of = "Promise 24", says = "Returns the length that it had.")
    void promise24_returns_0_to_60() {
        due(0, NEW, x -> x.clearText());
        due(1, textAlone("a"), x -> x.clearText());
        due(59, textAlone(FULL.substring(1)), x -> x.clearText());
        due(60, textAlone(FULL), x -> x.clearText());
        Bench x = made(textAlone(FULL));
        due(60, x, y -> y.clearText());
        due(0, x, y -> y.clearText());
    }

    // ---- Promise 25: parse

    @Sentence(of = "Promise 25", says = "Makes the automaton of a slot that of the expression of the text.")
    void promise25_one_slot_alone() {
        Bench x = made(text("b"));
        x.parse(1);
        holds(x, 1, row(1, 0), row(0, 1), new int[2][2], matrix(row(0, 1), row(0, 0)));
        due(1, x, y -> y.states(0));
        due(3, x, y -> y.states(2));
        due(4, x, y -> y.states(3));
        Bench full = made(textAlone(FULL));
        due(1, full, y -> y.parse(3));
        due(41, full, y -> y.weight(3, 0));
        due(0, full, y -> y.weight(3, 1));
    }

    @Sentence(of = "Promise 25", says = "The text stays as it is.")
    void promise25_the_text_stays() {
        String[] texts = {"", "a", "a*", "a+", "1*", FULL};
        int[] answers = {-10, 2, 1, -12, -2, 1};
        for (int k = 0; k < texts.length; k++) {
            int due = answers[k];
            Bench x = made(textAlone(texts[k]));
            due(due, x, y -> y.parse(0));
            due(due, x, y -> y.parse(0));
            due(due, x, y -> y.parse(3));
            due(texts[k].length(), x, y -> y.clearText());
        }
    }

    @Sentence(of = "Promise 25", says = "Undoable, if the result is 0 or more.")
    void promise25_is_undoable_if_0_or_more() {
        undoable(textAlone("0+0"), 0, x -> x.parse(0));
        undoable(textAlone("a"), 0, x -> x.parse(0));
        undoable(text("0a"), 4, x -> x.parse(3));
        undoable(text("(a+2b)*"), 4, x -> x.parse(0));
        due(STATE, textAlone("1*"), x -> x.parse(0) == -2 ? x.undo() : 0);
        due(STATE, textAlone(""), x -> x.parse(0) == -10 ? x.undo() : 0);
        due(0, textAlone("0+0"), x -> x.parse(0) == 0 ? x.undo() : 7);
    }

    @Sentence(of = "Promise 25", says = "`slot`: 0 to 3")
    void promise25_slot_is_0_to_3() {
        for (int slot = 0; slot <= 3; slot++) {
            int to = slot;
            Bench x = made(text("a*b*a*b*a*b*"));
            due(6, x, y -> y.parse(to));
            for (int other = 0; other <= 3; other++) {
                int s = other;
                due(s == to ? 6 : s + 1, x, y -> y.states(s));
            }
        }
        refusedOutsideSlots(text("a"), (x, slot) -> x.parse(slot));
    }

    @Sentence(of = "Promise 25", says = "Returns the number of states;")
    void promise25_returns_0_to_12() {
        due(0, textAlone("0+0"), x -> x.parse(0));
        due(0, textAlone("0a"), x -> x.parse(0));
        due(1, textAlone("0"), x -> x.parse(0));
        due(2, textAlone("a"), x -> x.parse(0));
        due(11, textAlone("ab*a*b*a*b*a*b*a*b*"), x -> x.parse(0));
        due(12, textAlone("ab*a*b*a*b*a*b*a*b*a*"), x -> x.parse(0));
        due(-2, textAlone("ab*a*b*a*b*a*b*a*b*a*b*"), x -> x.parse(0));
    }

    @Sentence(of = "Promise 25", says = "-10 minus the syntax error position if there is a syntax error;")
    void promise25_returns_minus_10_to_minus_70() {
        due(-10, textAlone(""), x -> x.parse(0));
        due(-10, textAlone(")" + FULL.substring(1)), x -> x.parse(0));
        due(-11, textAlone("1)" + FULL.substring(2)), x -> x.parse(0));
        due(-68, textAlone(FULL.substring(0, 58) + ")0"), x -> x.parse(0));
        due(-69, textAlone(FULL.substring(0, 59) + ")"), x -> x.parse(0));
        due(-68, textAlone("1+".repeat(29) + "+1"), x -> x.parse(0));
        due(-68, textAlone("1+".repeat(29)), x -> x.parse(0));
        due(-70, textAlone("1+".repeat(30)), x -> x.parse(0));
    }

    @Sentence(of = "Promise 25", says = "-10 minus the syntax error position if there is a syntax error; "
            + "-2 if an operation is not possible")
    void promise25_a_syntax_error_counts_before_an_operation() {
        due(-2, textAlone("1*"), x -> x.parse(0));
        due(-12, textAlone("1*)"), x -> x.parse(0));
        due(-13, textAlone("1*+"), x -> x.parse(0));
        due(-13, textAlone("(1*"), x -> x.parse(0));
        due(-2, textAlone("aaaaaaaaaaa"), x -> x.parse(0));
        due(-21, textAlone("aaaaaaaaaaa "), x -> x.parse(0));
        due(-22, textAlone("aaaaaaaaaaa+"), x -> x.parse(0));
    }

    @Sentence(of = "Promise 25", says = "-2 if an operation is not possible (a star of a series whose empty word has a "
            + "weight other than 0, or more than 12 states before minimizing);")
    void promise25_a_star_is_not_possible() {
        due(1, textAlone("0*"), x -> x.parse(0));
        due(-2, textAlone("1*"), x -> x.parse(0));
        due(-2, textAlone("9999*"), x -> x.parse(0));
        due(1, textAlone("a*"), x -> x.parse(0));
        due(-2, textAlone("a**"), x -> x.parse(0));
        due(-2, textAlone("0**"), x -> x.parse(0));
        due(-2, textAlone("(a+1)*"), x -> x.parse(0));
        // 1 + 9999 + 7 is 10007, which is 0.
        due(1, textAlone("(a+1+9999+7)*"), x -> x.parse(0));
        due(-2, textAlone("(a+1+9999+6)*"), x -> x.parse(0));
        due(-2, textAlone("(a+1+9999+8)*"), x -> x.parse(0));
        due(1, textAlone("(0+0)*"), x -> x.parse(0));
    }

    @Sentence(of = "Promise 25", says = "-2 if an operation is not possible (a star of a series whose empty word has a "
            + "weight other than 0, or more than 12 states before minimizing);")
    void promise25_more_than_12_states_before_minimizing() {
        // Products: 10 + 2 and 11 + 2, 6 + 6 and 7 + 6 states.
        due(11, textAlone("aaaaaaaaaa"), x -> x.parse(0));
        due(-2, textAlone("aaaaaaaaaaa"), x -> x.parse(0));
        due(11, textAlone("(aaaaa)(aaaaa)"), x -> x.parse(0));
        due(-2, textAlone("(aaaaaa)(aaaaa)"), x -> x.parse(0));
        due(-2, textAlone("(aaaaa)(aaaaaa)"), x -> x.parse(0));
        // Sums: 11 + 1 and 11 + 2 states, and 11 + 0.
        due(11, textAlone("aaaaaaaaaa+1"), x -> x.parse(0));
        due(11, textAlone("1+aaaaaaaaaa"), x -> x.parse(0));
        due(-2, textAlone("aaaaaaaaaa+a"), x -> x.parse(0));
        due(-2, textAlone("a+aaaaaaaaaa"), x -> x.parse(0));
        due(11, textAlone("aaaaaaaaaa+(0a)"), x -> x.parse(0));
        // Stars: 11 + 1 and 12 + 1 states.
        due(10, textAlone("(aaaaaaaaaa)*"), x -> x.parse(0));
        due(10, textAlone("(ab*a*b*a*b*a*b*a*b*)*"), x -> x.parse(0));
        due(-2, textAlone("(ab*a*b*a*b*a*b*a*b*a*)*"), x -> x.parse(0));
        // 12 states and none more, whatever the order.
        due(12, textAlone("ab*a*b*a*b*a*b*a*b*a*+(0a)"), x -> x.parse(0));
        due(-2, textAlone("ab*a*b*a*b*a*b*a*b*a*+0"), x -> x.parse(0));
        due(-2, textAlone("0+ab*a*b*a*b*a*b*a*b*a*"), x -> x.parse(0));
    }

    @Sentence(of = "Promise 25", says = "if the result is below 0, nothing changes.")
    void promise25_below_0_nothing_changes() {
        for (String text : new String[] {"", "1*", "a**", "a)", "a+", "aaaaaaaaaaa", "1+".repeat(30), "a".repeat(60)}) {
            for (int slot = 0; slot <= 3; slot++) {
                int s = slot;
                changesNothing(text(text), x -> x.parse(s));
                changesNothing(textAlone(text), x -> x.parse(s));
            }
        }
        // What was begun before the operation that isn't possible does not come back.
        Bench x = made(textAlone("ab+b*(1*)"));
        due(-2, x, y -> y.parse(0));
        x.clearText();
        write(x, "b");
        due(2, x, y -> y.parse(0));
        holds(x, 0, row(1, 0), row(0, 1), new int[2][2], matrix(row(0, 1), row(0, 0)));
    }

    @Sentence(of = "Promise 25", says = "Throws `IndexOutOfBoundsException` if there is no such slot")
    void promise25_no_such_slot() {
        for (String text : new String[] {"", "a", "a)", "1*", "0+0", FULL}) {
            refusedOutsideSlots(textAlone(text), (x, slot) -> x.parse(slot));
            refusedOutsideSlots(text(text), (x, slot) -> x.parse(slot));
        }
    }
}

/** The document's terms of the expression text, by sentences: what can still stand, and what can't any more. */
public final class ExpressionEdgesTest extends Edges {
    public static void main(String[] args) {
        new ExpressionEdgesTest().run();
    }

    private static final int SYNTAX = -10;
    private static final int IMPOSSIBLE = -2;

    private static Script text(String text) {
        return x -> write(x, text);
    }

    private void parses(int due, String text) {
        due(due, text(text), x -> x.parse(0));
    }

    /** The first byte that can't stand is at the position, or the text ends too early there. */
    private void fails(int position, String text) {
        due(SYNTAX - position, text(text), x -> x.parse(0));
        changesNothing(text(text), x -> x.parse(0));
    }

    private void impossible(String text) {
        due(IMPOSSIBLE, text(text), x -> x.parse(0));
        changesNothing(text(text), x -> x.parse(0));
    }

    /** The weights of the first words. */
    private void weighs(String text, int... weights) {
        Bench x = made(text(text));
        x.parse(0);
        for (int word = 0; word < weights.length; word++) {
            int w = word;
            due(weights[w], x, y -> y.weight(0, w));
        }
    }

    @Sentence(of = "Terms", says = "The text has at most 60 bytes:")
    void terms_text_has_at_most_60_bytes() {
        String full = "1+".repeat(29) + "12";
        parses(1, full);
        weighs(full, 41, 0, 0);
        due(60, text(full.substring(1)), x -> x.append('1'));
        refusedWith(STATE, text(full), (x, value) -> x.append(value), 0, '1', 127);
        fails(0, "");
    }

    @Sentence(of = "Terms", says = "sum = product { \"+\" product }")
    void terms_sum_of_one_and_of_many_products() {
        parses(1, "1");
        parses(1, "1+1");
        weighs("1+".repeat(29) + "1", 30, 0, 0);
        fails(0, "");
        fails(0, "+");
        fails(0, "+1");
        fails(2, "1+");
        fails(2, "1++1");
        fails(2, "1+)");
        fails(1, "(+1)");
    }

    @Sentence(of = "Terms", says = "product = factor { factor }")
    void terms_product_of_one_and_of_many_factors() {
        parses(2, "a");
        parses(3, "ab");
        parses(11, "a".repeat(10));
        weighs("ab", 0, 0, 0, 0, 1, 0, 0);
        weighs("aab", 0, 0, 0, 0, 0, 0, 0, 0, 1, 0, 0);
        // Factors are taken from the left: (a1)b weighs twice what a(1b) does.
        weighs("a1b", 0, 0, 0, 0, 2);
        weighs("a(1b)", 0, 0, 0, 0, 1);
        // 20 factors of 1: 2 to the power of 19.
        weighs("(1)".repeat(20), 524288 % PRIME, 0, 0);
        fails(1, "()");
        fails(3, "(a()");
    }

    @Sentence(of = "Terms", says = "factor = ( \"a\" | \"b\" | number | \"(\" sum \")\" ) { \"*\" }")
    void terms_factor_with_no_star_and_with_stars() {
        parses(2, "a");
        parses(1, "a*");
        parses(1, "0*");
        impossible("a**");
        parses(1, "(a)*");
        parses(2, "(a)");
        parses(2, "((a))");
        fails(0, "*");
        fails(0, "*a");
        fails(1, "(*");
        fails(2, "a+*");
        fails(0, ")");
        fails(1, "a)");
        fails(3, "(a))");
        fails(2, "(a");
        fails(3, "(a*");
        // The star is of the last factor alone: ab* weighs abb, but not abab.
        weighs("ab*", 0, 2, 0, 0, 1, 0, 0, 0, 0, 0, 1);
        weighs("(ab)*", 1, 0, 0, 0, 1, 0, 0, 0, 0, 0, 0, 0, 0, 0, 0, 0, 0, 0, 0, 0, 1);
    }

    @Sentence(of = "Terms", says = "A number has one to four digits")
    void terms_number_has_one_to_four_digits() {
        String[] numbers = {"0", "1", "9", "10", "99", "100", "999", "1000", "9999", "00", "000", "0000", "0001", "0010",
            "0999"};
        for (String number : numbers) {
            parses(1, number);
            weighs(number, Integer.parseInt(number), 0, 0, 0, 0, 0, 0);
        }
        fails(4, "00000");
        fails(4, "12345");
        fails(4, "123456");
        fails(4, "1234567890");
        fails(5, "a12345");
        fails(5, "(12345)");
        fails(6, "1+00001");
        fails(9, "1234+56789");
        fails(9, "1234*56789");
        fails(10, "(9999)99991");
        // Four digits, then something else, then four digits.
        parses(1, "1234+5678");
        weighs("9999+9999", 9991);
        weighs("(1234)(5678)", (int) (2L * 1234 * 5678 % PRIME));
        weighs("9999a9999", 0, (int) (2L * 9999 * 9999 % PRIME));
        impossible("1234*");
    }

    @Sentence(of = "Terms", says = "(a value above 10006 cannot stand, at its first digit, found when a byte that is no "
            + "digit, or the end of the text, follows it)")
    void terms_value_above_10006_cannot_stand() {
        // Four digits make 9999 at most; what is above it has a fifth digit, which is found before an end of the number.
        parses(1, "9999");
        weighs("9999", 9999);
        for (String number : new String[] {"10000", "10005", "10006", "10007", "10008", "99999"}) {
            fails(4, number);
            fails(4, number + "a");
            fails(4, number + "+1");
            fails(6, "1+" + number);
            fails(5, "(" + number + ")");
        }
        // Numbers that make 10006 and 10007 together.
        weighs("9999+7", 10006);
        weighs("9999+8", 0);
    }

    @Sentence(of = "Terms", says = "and is the series with this weight for the empty word, 0 for all others;")
    void terms_number_weighs_the_empty_word_alone() {
        for (int number : row(0, 1, 9999)) {
            Bench x = made(text("" + number));
            x.parse(0);
            due(number, x, y -> y.weight(0, 0));
            due(0, x, y -> y.weight(0, 1));
            due(0, x, y -> y.weight(0, 2));
            due(number == 0 ? 0 : 1, x, y -> y.support(0, 4095));
            due(number == 0 ? NONE : 0, x, y -> y.first(0));
        }
    }

    @Sentence(of = "Terms", says = "a letter is the series with the weight 1 for the word of this letter alone;")
    void terms_letter_weighs_one_word_alone() {
        for (String letter : new String[] {"a", "b"}) {
            Bench x = made(text(letter));
            x.parse(0);
            int word = letter.equals("a") ? 1 : 2;
            due(1, x, y -> y.weight(0, word));
            due(word, x, y -> y.first(0));
            due(1, x, y -> y.support(0, 4095));
        }
        for (String sign : new String[] {"c", "A", "B", "`"}) {
            fails(0, sign);
        }
    }

    @Sentence(of = "Terms", says = "\"+\" is the sum, writing next to each other the Cauchy product, \"*\" the star.")
    void terms_operations_of_the_text() {
        weighs("a+b", 0, 1, 1, 0);
        weighs("3+4", 7, 0, 0);
        weighs("a+a", 0, 2, 0);
        // The empty second word counts twice.
        weighs("(3)(4)", 24, 0, 0);
        weighs("3a", 0, 3, 0);
        weighs("a3", 0, 6, 0);
        weighs("a*b*", 2, 2, 1, 2, 1, 0, 1);
        weighs("0*", 1, 0, 0);
        weighs("a*", 1, 1, 0, 1, 0, 0, 0, 1);
        // The star goes before the product, the product before the sum.
        weighs("a+ba", 0, 1, 0, 0, 0, 1, 0);
        weighs("(a+b)a", 0, 0, 0, 1, 0, 1, 0);
        weighs("a+b*", 1, 1, 1, 0, 0, 0, 1);
        weighs("(a+2b)*", 1, 1, 2, 1, 2, 2, 4);
    }

    @Sentence(of = "Terms", says = "\"+\" is the sum, writing next to each other the Cauchy product, \"*\" the star.")
    void terms_a_star_of_an_empty_word_with_a_weight() {
        parses(1, "(a+1+9999+7)*");
        impossible("(a+1+9999+6)*");
        impossible("(a+1+9999+8)*");
        impossible("1*");
        impossible("9999*");
        parses(1, "0*");
        impossible("0**");
        parses(1, "(0+0)*");
        parses(1, "(0a)*");
        impossible("a+1*");
        impossible("(1*)a");
        impossible("(a*)*");
        parses(2, "(a*b)*");
        impossible("(a*b*)*");
    }

    @Sentence(of = "Terms", says = "Parentheses can be nested 8 deep.")
    void terms_parentheses_are_nested_8_deep() {
        for (int depth = 0; depth <= 8; depth++) {
            parses(2, "(".repeat(depth) + "a" + ")".repeat(depth));
            fails(2 * depth + 1, "(".repeat(depth) + "a" + ")".repeat(depth + 1));
        }
        for (int depth = 9; depth <= 29; depth++) {
            fails(8, "(".repeat(depth) + "a" + ")".repeat(depth));
        }
        fails(8, "(".repeat(60));
        fails(8, "(".repeat(9));
        // It is the depth that counts, not the number: closed ones make room.
        parses(3, "((((((((a))))))))((((((((b))))))))");
        fails(17 + 8, "((((((((a))))))))(((((((((b)))))))))");
        parses(3, "((((((((a)(b))))))))");
        fails(11, "((((((((a)((b)))))))))");
        parses(3, "(((((((a(b))))))))");
        fails(9, "((((((((a(b)))))))))");
        weighs("(1)".repeat(20), 524288 % PRIME);
        // Depth 8 keeps all that is begun in each depth: 1 + (1 + (1 + ...)).
        weighs("1+(1+(1+(1+(1+(1+(1+(1+(1+2))))))))", 11);
        weighs("2(a+2(a+2(a+2(a+2(a+2(a+2(a+2(a+3))))))))", 3 * 65536 % PRIME);
    }

    @Sentence(of = "Terms", says = "The syntax error position is the index of the first byte that cannot stand where it "
            + "stands (a fifth digit, and a parenthesis inside 8 others, too),")
    void terms_each_byte_after_each_kind_of_beginning() {
        byteByByte("", "ab0123456789(", 0);
        byteByByte("a", "ab0123456789(+*", 0);
        byteByByte("b", "ab0123456789(+*", 0);
        byteByByte("1", "ab0123456789(+*", 0);
        byteByByte("123", "ab0123456789(+*", 0);
        byteByByte("1234", "ab(+*", 0);
        byteByByte("a+", "ab0123456789(", 0);
        byteByByte("a*", "ab0123456789(+*", 0);
        byteByByte("(", "ab0123456789(", 1);
        byteByByte("(a", "ab0123456789(+*)", 1);
        byteByByte("(1234", "ab(+*)", 1);
        byteByByte("(a+", "ab0123456789(", 1);
        byteByByte("(a)", "ab0123456789(+*", 0);
        byteByByte("(((((((", "ab0123456789(", 7);
        byteByByte("((((((((", "ab0123456789", 8);
        byteByByte("((((((((a", "ab0123456789+*)", 8);
        byteByByte("((((((((a)", "ab0123456789(+*)", 7);
    }

    /** Of all bytes, those that can stand after the beginning are the given ones. */
    private void byteByByte(String beginning, String canStand, int depth) {
        for (int value = 0; value <= 127; value++) {
            char sign = (char) value;
            String text = beginning + sign;
            int then = depth + (sign == '(' ? 1 : sign == ')' ? -1 : 0);
            if (canStand.indexOf(sign) < 0) {
                fails(beginning.length(), text);
            } else if (then > 0 || sign == '+' || sign == '(') {
                fails(text.length(), text);
            } else {
                due(true, text(text), x -> x.parse(0) >= IMPOSSIBLE);
            }
        }
    }

    @Sentence(of = "Terms", says = "The syntax error position is the index of the first byte that cannot stand where it "
            + "stands (a fifth digit, and a parenthesis inside 8 others, too),")
    void terms_the_first_of_several_errors() {
        fails(0, ")))");
        fails(1, "a)b)");
        fails(1, "a)12345");
        fails(4, "12345)");
        fails(8, "(((((((((12345");
        fails(1, "()(((((((((");
        fails(0, "+" + "a".repeat(59));
        fails(1, "a)" + "a".repeat(58));
        fails(58, "1+".repeat(29) + ")1");
        fails(59, "1+".repeat(29) + "1)");
    }

    @Sentence(of = "Terms", says = "or the length of the text if the text ends too early.")
    void terms_the_text_ends_too_early() {
        fails(0, "");
        fails(1, "(");
        fails(8, "((((((((");
        fails(9, "((((((((a");
        fails(16, "((((((((a)))))))");
        fails(2, "a+");
        fails(3, "(a+");
        fails(2, "(a");
        fails(5, "(1234");
        fails(58, "1+".repeat(29));
        fails(60, "1+".repeat(30));
        fails(59, "(" + "1+".repeat(28) + "12");
        fails(60, "(" + "1+".repeat(28) + "123");
        parses(1, "(" + "1+".repeat(28) + "12)");
    }

    @Sentence(of = "Terms", says = "There are no spaces.")
    void terms_there_are_no_spaces() {
        fails(0, " ");
        fails(0, " a");
        fails(1, "a ");
        fails(1, "a b");
        fails(1, "1 2");
        fails(2, "a+ b");
        fails(1, "a +b");
        fails(1, "( a)");
        fails(2, "(a )");
        fails(1, "a *");
        fails(1, "a\n");
        fails(1, "a\t");
        fails(1, "a\u0000");
        fails(4, "1234 ");
        fails(59, "1+".repeat(29) + "1 ");
    }

    @Sentence(of = "Terms", says = "a letter has 2 states, with initial 1, 0, final 0, 1, and in its matrix 1 from state 0 "
            + "to state 1; a number has one state, with initial 1 and the number as final.")
    void terms_automata_of_letters_and_numbers() {
        for (String text : new String[] {"a", "(a)", "((((((((a))))))))"}) {
            Bench x = made(text(text));
            x.random(2, 12, 999);
            due(2, x, y -> y.parse(2));
            holds(x, 2, row(1, 0), row(0, 1), matrix(row(0, 1), row(0, 0)), new int[2][2]);
        }
        Bench b = made(text("b"));
        due(2, b, y -> y.parse(2));
        holds(b, 2, row(1, 0), row(0, 1), new int[2][2], matrix(row(0, 1), row(0, 0)));
        for (String number : new String[] {"0", "1", "9999", "(0)", "((((((((0))))))))", "0000", "0017"}) {
            Bench x = made(text(number));
            x.random(2, 12, 999);
            due(1, x, y -> y.parse(2));
            holdsOne(x, 2, 1, Integer.parseInt(number.replace("(", "").replace(")", "")), 0, 0);
        }
    }

    @Sentence(of = "Terms", says = "After each operation within an expression the automaton is minimized.")
    void terms_minimized_after_each_operation() {
        // Without an operation nothing is minimized: 0 has a state, 0 + 0 has none.
        parses(1, "0");
        parses(1, "(0)");
        parses(0, "0+0");
        parses(0, "a0");
        parses(0, "0a");
        parses(1, "0*");
        // The minimal automaton of a ends with the numbers that the letter's begins with.
        Bench letter = made(text("a"));
        letter.parse(0);
        due(1, letter, x -> x.end(0, 0, false));
        Bench sum = made(text("a+0"));
        due(2, sum, x -> x.parse(0));
        holds(sum, 0, row(0, 1), row(1, 0), matrix(row(0, 0), row(1, 0)), new int[2][2]);
        Bench product = made(text("1a"));
        due(2, product, x -> x.parse(0));
        holds(product, 0, row(0, 1), row(1, 0), matrix(row(0, 0), row(1, 0)), new int[2][2]);
        Bench star = made(text("a*"));
        due(1, star, x -> x.parse(0));
        holdsOne(star, 0, 1, 1, 1, 0);
        // Each operation, not the last one alone: 30 letters never are more than 2 + 2 states.
        parses(2, "a" + "+a".repeat(29));
        weighs("a" + "+a".repeat(29), 0, 30, 0);
        parses(1, "a*" + "+a*".repeat(19));
        weighs("a*" + "+a*".repeat(14), 15, 15, 0);
    }

    @Sentence(of = "Terms", says = "After each operation within an expression the automaton is minimized.")
    void terms_12_states_before_minimizing() {
        parses(11, "a".repeat(10));
        impossible("a".repeat(11));
        impossible("a".repeat(60));
        parses(11, "a".repeat(10) + "+1");
        impossible("a".repeat(10) + "+a");
        parses(12, "ab*a*b*a*b*a*b*a*b*a*");
        impossible("ab*a*b*a*b*a*b*a*b*a*b*");
        impossible("ab*a*b*a*b*a*b*a*b*a*+1");
        parses(10, "(ab*a*b*a*b*a*b*a*b*)*");
        impossible("(ab*a*b*a*b*a*b*a*b*a*)*");
    }
}

import java.math.BigInteger;

/** Promises 26 and 27, sentence by sentence: the last call that is allowed and the first that isn't. */
public final class StateEdgesTest extends Edges {
    public static void main(String[] args) {
        new StateEdgesTest().run();
    }

    /** As many begins of slot 0 as asked for, with 1, 2, 3, ... states. */
    private static Script begins(int calls) {
        return x -> {
            for (int states = 1; states <= calls; states++) {
                x.begin(0, states);
            }
        };
    }

    // ---- Promise 26: undo

    @Sentence(of = "Promise 26", says = "Restores the most recently saved state and removes it from the saved states.")
    void promise26_the_most_recent_first() {
        for (int calls = 0; calls <= 12; calls++) {
            Bench x = made(begins(calls));
            int saved = Math.min(calls, 4);
            for (int k = 1; k <= saved; k++) {
                int remain = saved - k;
                int states = calls - k;
                due(remain, x, y -> y.undo());
                due(states, x, y -> y.states(0));
            }
            int least = calls - saved;
            due(STATE, x, y -> y.undo());
            due(least, x, y -> y.states(0));
        }
    }

    @Sentence(of = "Promise 26", says = "Restores the most recently saved state and removes it from the saved states.")
    void promise26_what_was_undone_does_not_come_back() {
        Bench x = made(begins(4));
        x.undo();
        x.undo();
        x.begin(1, 9);
        due(2, x, y -> y.undo());
        due(0, x, y -> y.states(1));
        due(2, x, y -> y.states(0));
        due(1, x, y -> y.undo());
        due(1, x, y -> y.states(0));
        // Undo is not undoable.
        due(0, x, y -> y.undo());
        due(0, x, y -> y.states(0));
        due(STATE, x, y -> y.undo());
    }

    @Sentence(of = "Promise 26", says = "Restores the most recently saved state and removes it from the saved states.")
    void promise26_all_numbers_come_back() {
        for (int states : row(0, 1, 11, 12)) {
            Bench x = made(y -> y.random(3, states, 999999));
            long before = x.digest();
            for (int after : row(0, 1, 12)) {
                x.random(3, after, 5);
                due(1, x, y -> y.undo());
                due(before, x, y -> y.digest());
            }
        }
    }

    @Sentence(of = "Promise 26", says = "Returns the number of saved states that remain.")
    void promise26_returns_3_to_0() {
        for (int calls = 1; calls <= 12; calls++) {
            Bench x = made(begins(calls));
            for (int remain = Math.min(calls, 4) - 1; remain >= 0; remain--) {
                int due = remain;
                due(due, x, y -> y.undo());
            }
            due(STATE, x, y -> y.undo());
        }
    }

    @Sentence(of = "Promise 26", says = "Throws `IllegalStateException` if there is no saved state")
    void promise26_no_saved_state() {
        refused(STATE, NEW, x -> x.undo());
        refused(STATE, x -> write(x, "a*"), x -> x.undo());
        due(0, begins(1), x -> x.undo());
        refused(STATE, x -> {
            begins(1).run(x);
            x.undo();
        }, x -> x.undo());
        Script drained = x -> {
            FOUR.run(x);
            for (int k = 0; k < 4; k++) {
                x.undo();
            }
        };
        refused(STATE, drained, x -> x.undo());
        Bench x = made(drained);
        due(STATE, x, y -> y.undo());
        due(STATE, x, y -> y.undo());
        due(1, x, y -> y.begin(0, 2));
        due(0, x, y -> y.undo());
        due(STATE, x, y -> y.undo());
    }

    // ---- Promise 27: digest

    /** The digest of what a script builds, from what the other calls answer, in numbers without a bound. */
    private static long expected(Script build, int length, int saved) {
        BigInteger h = BigInteger.valueOf(3019);
        h = next(h, length);
        for (int slot = 0; slot <= 3; slot++) {
            Bench x = made(build);
            int n = x.states(slot);
            h = next(h, n);
            for (int i = 0; i < n; i++) {
                h = next(h, x.end(slot, i, false));
                h = next(h, x.end(slot, i, true));
            }
            for (int k = 0; k < 2 * n * n; k++) {
                h = next(h, x.step(slot, k / (n * n), k / n % n, k % n));
            }
            for (int kind = 0; kind <= 2; kind++) {
                h = next(h, x.dimension(slot, kind));
            }
        }
        return next(h, saved).longValue();
    }

    private static BigInteger next(BigInteger h, int value) {
        return h.multiply(BigInteger.valueOf(31)).add(BigInteger.valueOf(value));
    }

    @Sentence(of = "Promise 27", says = "Returns a hash of the state.")
    void promise27_changes_nothing() {
        changesNothing(NEW, x -> x.digest());
        changesNothing(FOUR, x -> x.digest());
        Bench x = made(FOUR);
        long first = x.digest();
        due(first, x, y -> y.digest());
        due(first, FOUR, y -> y.digest());
    }

    @Sentence(of = "Promise 27", says = "Start with h = 3019 and, for each of the following values v, set h = 31 * h + v: "
            + "the length of the text; for each slot the number of states, for each state its initial and its final number, "
            + "the matrices (letter by letter, row by row), and dimension() for kind = 0 to 2; the number of saved states.")
    void promise27_of_the_smallest_and_the_largest_state() {
        due(expected(NEW, 0, 0), NEW, x -> x.digest());
        due(expected(FOUR, 2, 4), FOUR, x -> x.digest());
        Script full = x -> {
            for (int slot = 0; slot <= 3; slot++) {
                x.random(slot, 12, 999999 - slot);
            }
            x.setEnd(0, 0, false, 10006);
            x.setEnd(3, 11, true, 10006);
            x.setStep(3, B, 11, 11, 10006);
            write(x, "a".repeat(60));
        };
        due(expected(full, 60, 4), full, x -> x.digest());
        Script empty = x -> x.begin(2, 12);
        due(expected(empty, 0, 1), empty, x -> x.digest());
    }

    @Sentence(of = "Promise 27", says = "the length of the text")
    void promise27_length_of_0_to_60() {
        for (int length : row(0, 1, 59, 60)) {
            Script build = x -> write(x, "b".repeat(length));
            due(expected(build, length, 0), build, x -> x.digest());
        }
    }

    @Sentence(of = "Promise 27", says = "dimension() for kind = 0 to 2")
    void promise27_three_dimensions() {
        // Forward 12, backward 1, minimal 1; then forward 1, backward 12, minimal 1; then 1, 1 and 0.
        for (int start : row(0, 11)) {
            for (int last : row(0, 11)) {
                Script build = x -> {
                    chain(x, 1, 12, A);
                    x.setEnd(1, 0, false, 0);
                    x.setEnd(1, 11, true, 0);
                    x.setEnd(1, start, false, 10006);
                    x.setEnd(1, last, true, 10006);
                };
                due(expected(build, 0, 4), build, x -> x.digest());
            }
        }
    }

    @Sentence(of = "Promise 27", says = "the number of saved states.")
    void promise27_saved_states_of_0_to_4() {
        for (int calls = 0; calls <= 6; calls++) {
            Script build = begins(calls);
            int saved = Math.min(calls, 4);
            due(expected(build, 0, saved), build, x -> x.digest());
            Script undone = x -> {
                build.run(x);
                for (int k = 0; k < saved; k++) {
                    x.undo();
                }
            };
            due(expected(undone, 0, 0), undone, x -> x.digest());
        }
    }

    @Sentence(of = "Promise 27", says = "Returns the hash, with the overflow of long arithmetic ignored.")
    void promise27_overflows() {
        // A new object's 18 values are all 0.
        BigInteger h = BigInteger.valueOf(3019).multiply(BigInteger.valueOf(31).pow(18));
        due(true, NEW, x -> h.bitLength() > 64);
        due(h.longValue(), NEW, x -> x.digest());
    }
}

/** Long runs of calls, the same on a SeriesBench and on a Model: all answers and exceptions must agree. */
public final class ModelTest {
    private static final int RUNS = 700;

    private final Check check = new Check("ModelTest");
    private long seed;
    private Bench bench;
    private Model model;
    private int run;
    private int most;

    public static void main(String[] args) {
        new ModelTest().all();
    }

    private void all() {
        for (run = 1; run <= RUNS && check.wrong() == 0; run++) {
            seed = run * 7919L;
            bench = new Bench();
            model = new Model();
            most = run % 3 == 0 ? 12 : run % 3 == 1 ? 4 : 7;
            for (int step = 0; bench.left() > 0 && check.wrong() == 0; step++) {
                if (step % 8 == 7) {
                    same("digest()", () -> bench.digest(), () -> model.digest());
                } else {
                    one(any(26));
                }
            }
        }
        check.end();
    }

    private int any(int bound) {
        seed = seed * 6364136223846793005L + 1442695040888963407L;
        return (int) ((seed >>> 33) % bound);
    }

    private int slot() {
        return any(40) == 0 ? any(2) * 5 - 1 : any(4);
    }

    /** Mostly 0 to most, now and then just outside. */
    private int upTo(int limit) {
        return any(30) == 0 ? any(2) == 0 ? -1 : limit + 1 : any(limit + 1);
    }

    private int number() {
        return any(4) == 0 ? upTo(10006) : any(3);
    }

    private int size() {
        return any(20) == 0 ? upTo(12) : any(most + 1);
    }

    private void same(String what, Check.Call got, Check.Call want) {
        if (bench.left() > 0) {
            String due = Check.answer(want);
            check.due("run " + run + ": " + what, due, got);
        }
    }

    private void one(int kind) {
        int s = slot();
        int t = slot();
        int u = slot();
        int n = size();
        int i = upTo(11);
        int j = upTo(11);
        int letter = any(2) + (any(30) == 0 ? 1 : 0);
        int value = number();
        boolean end = any(2) == 0;
        if (kind < 8) {
            change(kind, s, n, value);
        } else if (kind < 10 && s >= 0 && s < 4 && model.states(s) > 0) {
            int from = any(model.states(s));
            int to = any(model.states(s));
            same("setStep", () -> bench.setStep(s, letter, from, to, value),
                    () -> model.setStep(s, letter, from, to, value));
            same("setEnd", () -> bench.setEnd(s, to, end, value), () -> model.setEnd(s, to, end, value));
        } else if (kind < 13) {
            int how = any(30) == 0 ? 3 : any(3);
            same("combine", () -> bench.combine(s, t, u, how), () -> model.combine(s, t, u, how));
        } else if (kind < 16) {
            int how = upTo(6);
            same("derive " + how, () -> bench.derive(s, t, how), () -> model.derive(s, t, how));
        } else if (kind < 19) {
            expression(s);
        } else if (kind < 21) {
            same("setEnd", () -> bench.setEnd(s, i, end, value), () -> model.setEnd(s, i, end, value));
            same("setStep", () -> bench.setStep(s, letter, i, j, value), () -> model.setStep(s, letter, i, j, value));
            same("end", () -> bench.end(s, i, end), () -> model.end(s, i, end));
            same("step", () -> bench.step(s, letter, i, j), () -> model.step(s, letter, i, j));
            same("states", () -> bench.states(s), () -> model.states(s));
        } else {
            question(s, t);
        }
    }

    private void change(int kind, int s, int n, int value) {
        switch (kind) {
            case 0:
                same("begin", () -> bench.begin(s, n), () -> model.begin(s, n));
                break;
            case 1:
            case 2:
            case 3:
            case 4:
                int drawn = upTo(999999);
                same("random", () -> bench.random(s, n, drawn), () -> model.random(s, n, drawn));
                break;
            case 5:
                same("scale", () -> bench.scale(s, value), () -> model.scale(s, value));
                break;
            case 6:
                same("undo", () -> bench.undo(), () -> model.undo());
                break;
            default:
                same("inverse", () -> bench.inverse(value), () -> model.inverse(value));
                break;
        }
    }

    private void question(int s, int t) {
        int word = any(2) == 0 ? any(200) : upTo(1000000);
        int times = any(2) == 0 ? any(5) : upTo(200);
        int length = any(2) == 0 ? any(20) : upTo(2000);
        int limit = any(4) == 0 ? upTo(4095) : any(100);
        int size = any(2) == 0 ? upTo(31) : any(8);
        int kind = upTo(2);
        int d = upTo(12);
        int index = upTo(11);
        switch (any(10)) {
            case 0:
                same("weight", () -> bench.weight(s, word), () -> model.weight(s, word));
                break;
            case 1:
                same("powerWeight", () -> bench.powerWeight(s, word, times), () -> model.powerWeight(s, word, times));
                break;
            case 2:
                same("total", () -> bench.total(s, length), () -> model.total(s, length));
                break;
            case 3:
                same("support", () -> bench.support(s, limit), () -> model.support(s, limit));
                break;
            case 4:
                same("first", () -> bench.first(s), () -> model.first(s));
                break;
            case 5:
                same("dimension", () -> bench.dimension(s, kind), () -> model.dimension(s, kind));
                break;
            case 6:
                same("basisWord", () -> bench.basisWord(s, index), () -> model.basisWord(s, index));
                break;
            case 7:
                same("differing", () -> bench.differing(s, t), () -> model.differing(s, t));
                break;
            case 8:
                same("hankelRank", () -> bench.hankelRank(s, size), () -> model.hankelRank(s, size));
                break;
            default:
                same("recurs", () -> bench.recurs(s, d), () -> model.recurs(s, d));
                break;
        }
    }

    private void expression(int s) {
        if (any(4) != 0) {
            same("clearText", () -> bench.clearText(), () -> model.clearText());
        }
        StringBuilder text = new StringBuilder();
        sum(text, any(12) == 0 ? 10 : 3);
        if (any(3) == 0 && text.length() > 0) {
            text.setCharAt(any(text.length()), "ab()+*0129 c".charAt(any(12)));
        }
        if (any(12) == 0 && text.length() > 0) {
            text.setLength(any(text.length()));
        }
        for (int k = 0; k < text.length(); k++) {
            int value = text.charAt(k);
            same("append", () -> bench.append(value), () -> model.append(value));
        }
        same("parse " + text, () -> bench.parse(s), () -> model.parse(s));
    }

    private void sum(StringBuilder text, int depth) {
        for (int k = any(3); k >= 0; k--) {
            for (int m = any(3); m >= 0; m--) {
                factor(text, depth);
            }
            text.append(k > 0 ? "+" : "");
        }
    }

    private void factor(StringBuilder text, int depth) {
        int kind = any(depth > 0 && text.length() < 40 ? 8 : 4);
        if (kind < 3) {
            text.append((char) ('a' + any(2)));
        } else if (kind == 3) {
            text.append(any(8) == 0 ? any(12000) : any(4));
        } else {
            text.append('(');
            sum(text, depth - 1);
            text.append(')');
        }
        if (any(5) == 0) {
            text.append('*');
        }
    }
}

/** Counts the answers that are not as due, and ends the program with 1 if there is one. */
final class Check {
    interface Call {
        Object run();
    }

    private final String name;
    private int calls;
    private int wrong;

    /** The longest that a test may take: it takes some seconds, but for a call that doesn't end. */
    private static final long MILLISECONDS = 300_000;

    Check(String name) {
        this.name = name;
        Thread watch = new Thread(this::endLate);
        watch.setDaemon(true);
        watch.start();
    }

    private void endLate() {
        try {
            Thread.sleep(MILLISECONDS);
            System.out.println(name + " does not end");
            Runtime.getRuntime().halt(1);
        } catch (InterruptedException e) {
            System.out.println(name + " is no longer watched");
        }
    }

    /** What a call answers, or the name of the class of what it throws. */
    static String answer(Call call) {
        try {
            return String.valueOf(call.run());
        } catch (RuntimeException e) {
            return e.getClass().getName();
        }
    }

    void due(String what, Object want, Call call) {
        String got = answer(call);
        String due = want instanceof Class ? ((Class<?>) want).getName() : String.valueOf(want);
        calls++;
        if (!got.equals(due)) {
            wrong++;
            System.out.println(name + ": " + what + " answered " + got + ", due is " + due);
        }
    }

    int calls() {
        return calls;
    }

    int wrong() {
        return wrong;
    }

    void end() {
        System.out.println(name + ": " + calls + " answers, " + wrong + " of them not as due");
        if (wrong != 0) {
            System.exit(1);
        }
    }
}

import java.util.function.IntConsumer;

/** Counts the answers that are not the ones due, and ends the run of a test. */
final class Check {
    static final Class<IndexOutOfBoundsException> INDEX = IndexOutOfBoundsException.class;
    static final Class<IllegalArgumentException> ARGUMENT = IllegalArgumentException.class;
    static final Class<IllegalStateException> STATE = IllegalStateException.class;

    private int asked = 0;
    private int wrong = 0;

    void same(String what, long got, long due) {
        asked++;
        if (got != due) {
            wrong++;
            System.out.println(what + " answered " + got + ", due is " + due);
        }
    }

    void same(String what, boolean got, boolean due) {
        same(what, got ? 1 : 0, due ? 1 : 0);
    }

    /** The call throws just that exception, no subclass of it, and throws it itself. */
    void refused(String what, Class<? extends RuntimeException> due, Runnable call) {
        asked++;
        Class<?> got = null;
        try {
            call.run();
        } catch (RuntimeException e) {
            got = isThrownByTheClass(e) ? e.getClass() : null;
        }
        if (got != due) {
            wrong++;
            System.out.println(what + " threw " + got + ", due is " + due);
        }
    }

    /** What lies next to both ends of a range, and the farthest numbers, are refused. */
    void outside(String what, Class<? extends RuntimeException> due, int least, int most, IntConsumer call) {
        int[] values = {least - 1, most + 1, Integer.MIN_VALUE, Integer.MAX_VALUE};
        for (int value : values) {
            refused(what + " " + value, due, () -> call.accept(value));
        }
    }

    /** False if the library or the machine threw it. */
    static boolean isThrownByTheClass(RuntimeException e) {
        StackTraceElement[] trace = e.getStackTrace();
        return trace.length > 0 && trace[0].getClassName().equals("Amendgrant");
    }

    /** All that can be asked of a line but its source: stands, spent, bound, free, took, covered. */
    void line(Amendgrant x, int line, int... due) {
        for (int what = 0; what < due.length; what++) {
            same("ofLine(" + line + ", " + what + ")", x.ofLine(line, what), due[what]);
        }
        same("standsAnew(" + line + ")", x.standsAnew(line), due[0]);
    }

    /** State, sum and what was paid. */
    void grant(Amendgrant x, int grant, int... due) {
        for (int what = 0; what < due.length; what++) {
            same("ofGrant(" + grant + ", " + what + ")", x.ofGrant(grant, what), due[what]);
        }
    }

    void end() {
        System.out.println(asked + " answers, " + wrong + " wrong");
        if (wrong != 0) {
            System.exit(1);
        }
    }

    /** A budget with one line of source 0, and income enough. */
    static Amendgrant withLine(int amount) {
        Amendgrant x = new Amendgrant();
        x.line(0, amount);
        x.income(0, 100000);
        return x;
    }

    static void votes(Amendgrant x, int amendment, int votesFor, int votesAgainst) {
        for (int i = 0; i < votesFor; i++) {
            x.vote(i, amendment, true);
        }
        for (int i = 0; i < votesAgainst; i++) {
            x.vote(8 - i, amendment, false);
        }
    }

    static int pass(Amendgrant x, int amendment) {
        votes(x, amendment, 5, 0);
        return x.decide(amendment);
    }

    static int fell(Amendgrant x, int amendment) {
        votes(x, amendment, 0, 5);
        return x.decide(amendment);
    }

    static int passed(Amendgrant x, int line, int more) {
        int amendment = x.amend(line, more);
        pass(x, amendment);
        return amendment;
    }
}

import java.util.ArrayList;
import java.util.List;
import java.util.function.Consumer;
import java.util.function.IntConsumer;
import java.util.function.IntSupplier;
import java.util.function.Supplier;

/**
 * Shows that a refused call changes nothing: two budgets are made alike, one of them refuses the
 * call, and then both answer the same. A budget stays below its 512 calls if it has few lines,
 * amendments and grants.
 */
final class Twins {
    private final Check check;

    Twins(Check check) {
        this.check = check;
    }

    /** Compares what is asked, and what later calls answer, which shows what can't be asked. */
    void refused(String what, Class<? extends RuntimeException> due, Supplier<Amendgrant> made,
            Consumer<Amendgrant> call) {
        Amendgrant refusing = made.get();
        Amendgrant untouched = made.get();
        check.refused(what, due, () -> call.accept(refusing));
        check.same(what + ": what is asked stays", asked(refusing).equals(asked(untouched)), true);
        check.same(what + ": later calls stay", later(refusing).equals(later(untouched)), true);
    }

    /** For a budget with many rows: compares only what is asked. */
    void refusedInFull(String what, Class<? extends RuntimeException> due, Supplier<Amendgrant> made,
            Consumer<Amendgrant> call) {
        Amendgrant refusing = made.get();
        Amendgrant untouched = made.get();
        check.refused(what, due, () -> call.accept(refusing));
        check.same(what + ": what is asked stays", asked(refusing).equals(asked(untouched)), true);
    }

    static List<Long> asked(Amendgrant x) {
        List<Long> answers = new ArrayList<>();
        int lines = countLines(x);
        for (int line = 0; line < lines; line++) {
            answers.add((long) x.standsAnew(line));
            for (int what = 0; what < 7; what++) {
                answers.add((long) x.ofLine(line, what));
            }
        }
        int amendments = countAmendments(x);
        for (int amendment = 0; amendment < amendments; amendment++) {
            for (int what = 0; what < 8; what++) {
                answers.add((long) x.ofAmendment(amendment, what));
            }
        }
        int grants = countGrants(x);
        for (int grant = 0; grant < grants; grant++) {
            for (int what = 0; what < 8; what++) {
                answers.add((long) x.ofGrant(grant, what));
            }
        }
        for (int source = 0; source < 4; source++) {
            for (int what = 0; what < 3; what++) {
                answers.add((long) x.ofSource(source, what));
            }
        }
        for (int receiver = 0; receiver < 8; receiver++) {
            answers.add((long) x.owes(receiver));
        }
        answers.add((long) x.reserve());
        return answers;
    }

    private static List<Long> later(Amendgrant x) {
        List<Long> answers = new ArrayList<>();
        int amendments = countAmendments(x);
        int grants = countGrants(x);
        answers.add(answer(() -> x.target(50)));
        for (int i = 0; i < amendments; i++) {
            int amendment = i;
            for (int member = 0; member < 9; member++) {
                int voter = member;
                answers.add(answer(() -> x.vote(voter, amendment, voter % 3 != 0)));
            }
        }
        for (int i = amendments - 1; i >= 0; i--) {
            int amendment = i;
            answers.add(answer(() -> x.decide(amendment)));
        }
        for (int i = 0; i < grants; i++) {
            int grant = i;
            answers.add(answer(() -> x.pay(grant, 1)));
            answers.add(answer(() -> x.report(grant) ? 1 : 0));
        }
        answers.add(answer(() -> x.line(0, 1)));
        answers.add(answer(() -> x.amend(0, 1)));
        answers.add(answer(() -> x.grant(0, 0, 1, Amendgrant.NONE, 0)));
        answers.add(answer(() -> x.month(1)));
        answers.addAll(asked(x));
        return answers;
    }

    private static long answer(IntSupplier call) {
        try {
            return call.getAsInt();
        } catch (IndexOutOfBoundsException e) {
            return Long.MIN_VALUE;
        } catch (IllegalArgumentException e) {
            return Long.MIN_VALUE + 1;
        } catch (IllegalStateException e) {
            return Long.MIN_VALUE + 2;
        }
    }

    private static int countLines(Amendgrant x) {
        return countThere(line -> x.ofLine(line, 6));
    }

    private static int countAmendments(Amendgrant x) {
        return countThere(amendment -> x.ofAmendment(amendment, 0));
    }

    private static int countGrants(Amendgrant x) {
        return countThere(grant -> x.ofGrant(grant, 0));
    }

    private static int countThere(IntConsumer ask) {
        int count = 0;
        while (isThere(ask, count)) {
            count++;
        }
        return count;
    }

    private static boolean isThere(IntConsumer ask, int number) {
        try {
            ask.accept(number);
            return true;
        } catch (IndexOutOfBoundsException e) {
            return false;
        }
    }
}

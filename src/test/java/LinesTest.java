/** Promises 1 to 3, 17, 18 and 23: lines, sources, and what is asked of them. */
public final class LinesTest {
    private static final Check check = new Check();

    public static void main(String[] args) {
        constants();
        promise1NewObject();
        promise2Line();
        promise2AtMostTen();
        promise3Income();
        promise17OfLine();
        promise18StandsAnew();
        promise23OfSource();
        check.end();
    }

    private static void constants() {
        check.same("NONE", Amendgrant.NONE, -1);
        check.same("OPEN", Amendgrant.OPEN, 0);
        check.same("PASSED", Amendgrant.PASSED, 1);
        check.same("FALLEN", Amendgrant.FALLEN, 2);
        check.same("LIVE", Amendgrant.LIVE, 0);
        check.same("CUT", Amendgrant.CUT, 1);
        check.same("WITHDRAWN", Amendgrant.WITHDRAWN, 2);
    }

    private static void promise1NewObject() {
        Amendgrant x = new Amendgrant();
        check.same("reserve", x.reserve(), 0);
        check.refused("no line", Check.INDEX, () -> x.ofLine(0, 0));
        check.refused("no amendment", Check.INDEX, () -> x.ofAmendment(0, 0));
        check.refused("no grant", Check.INDEX, () -> x.ofGrant(0, 0));
        for (int source = 0; source < 4; source++) {
            for (int what = 0; what < 3; what++) {
                check.same("ofSource", x.ofSource(source, what), 0);
            }
        }
        for (int receiver = 0; receiver < 8; receiver++) {
            check.same("owes", x.owes(receiver), 0);
        }
        check.same("target", x.target(5), 5);
        check.same("month", x.month(1), 1);
    }

    private static void promise2Line() {
        Amendgrant x = new Amendgrant();
        check.refused("source -1", Check.ARGUMENT, () -> x.line(-1, 0));
        check.refused("source 4", Check.ARGUMENT, () -> x.line(4, 0));
        check.refused("amount -1", Check.ARGUMENT, () -> x.line(0, -1));
        check.refused("amount 100001", Check.ARGUMENT, () -> x.line(0, 100001));
        check.refused("amount least", Check.ARGUMENT, () -> x.line(0, Integer.MIN_VALUE));
        check.same("line", x.line(0, 0), 0);
        check.same("line", x.line(3, 100000), 1);
        check.line(x, 0, 0, 0, 0, 0, 0, 0);
        check.line(x, 1, 100000, 0, 0, 100000, 0, 0);
    }

    private static void promise2AtMostTen() {
        Amendgrant x = new Amendgrant();
        for (int number = 0; number < 10; number++) {
            check.same("line", x.line(number % 4, number), number);
        }
        check.refused("eleventh line", Check.STATE, () -> x.line(0, 1));
        check.refused("range goes first", Check.ARGUMENT, () -> x.line(4, 1));
        check.refused("range goes first", Check.ARGUMENT, () -> x.line(0, 100001));
        check.same("last line", x.ofLine(9, 0), 9);
        check.refused("line 10", Check.INDEX, () -> x.ofLine(10, 0));
    }

    private static void promise3Income() {
        Amendgrant x = new Amendgrant();
        check.same("income", x.income(0, 1), 1);
        check.same("income", x.income(0, 100000), 100001);
        check.same("income", x.income(3, 7), 7);
        check.refused("source -1", Check.ARGUMENT, () -> x.income(-1, 1));
        check.refused("source 4", Check.ARGUMENT, () -> x.income(4, 1));
        check.refused("amount 0", Check.ARGUMENT, () -> x.income(0, 0));
        check.refused("amount 100001", Check.ARGUMENT, () -> x.income(0, 100001));
        check.same("income stays", x.ofSource(0, 0), 100001);
    }

    private static void promise17OfLine() {
        Amendgrant x = new Amendgrant();
        x.line(2, 1000);
        x.line(1, 10);
        x.income(2, 1000);
        x.spend(0, 100);
        x.grant(0, 1, 300, Amendgrant.NONE, 9);
        Check.passed(x, 0, -700);
        check.line(x, 0, 300, 100, 100, 200, 0, 0);
        Check.passed(x, 0, -250);
        check.line(x, 0, 100, 100, 100, 0, 0, 50);
        check.same("its source", x.ofLine(0, 6), 2);
        check.same("its source", x.ofLine(1, 6), 1);
        check.refused("what -1", Check.ARGUMENT, () -> x.ofLine(0, -1));
        check.refused("what 7", Check.ARGUMENT, () -> x.ofLine(0, 7));
        check.refused("line -1", Check.INDEX, () -> x.ofLine(-1, 7));
        check.refused("line 2", Check.INDEX, () -> x.ofLine(2, 7));
    }

    private static void promise18StandsAnew() {
        Amendgrant x = Check.withLine(1000);
        int top = x.amend(0, 500);
        int on = x.amendOn(top, -100);
        int onThat = x.amendOn(on, -20);
        check.same("all open", x.standsAnew(0), 1000);
        Check.votes(x, top, 5, 0);
        check.same("only voted", x.standsAnew(0), 1000);
        Check.pass(x, onThat);
        check.same("below an open one", x.standsAnew(0), 1000);
        Check.pass(x, on);
        x.decide(top);
        check.line(x, 0, 1380);
        x.strike(onThat);
        check.line(x, 0, 1400);
        x.strike(on);
        check.line(x, 0, 1500);
        x.month(1);
        check.line(x, 0, 1425, 0, 0, 1425, 75, 0);
        x.strike(top);
        check.line(x, 0, 925);
        check.refused("line -1", Check.INDEX, () -> x.standsAnew(-1));
        check.refused("line 1", Check.INDEX, () -> x.standsAnew(1));
        secondRoundStandsAnew();
    }

    private static void secondRoundStandsAnew() {
        Amendgrant x = Check.withLine(1000);
        x.amend(0, 500);
        Check.votes(x, 0, 4, 4);
        x.decide(0);
        Check.votes(x, 0, 2, 1);
        check.same("not decided", x.standsAnew(0), 1000);
        x.decide(0);
        check.same("decided", x.standsAnew(0), 1500);
    }

    private static void promise23OfSource() {
        Amendgrant x = new Amendgrant();
        x.line(1, 100);
        x.line(2, 1000);
        x.line(1, 50);
        x.income(1, 90);
        x.spend(0, 30);
        x.grant(2, 0, 40, Amendgrant.NONE, 0);
        x.pay(0, 20);
        Check.passed(x, 2, 5);
        check.same("income", x.ofSource(1, 0), 90);
        check.same("paid", x.ofSource(1, 1), 50);
        check.same("stands", x.ofSource(1, 2), 155);
        check.same("stands", x.ofSource(2, 2), 1000);
        check.same("stands", x.ofSource(3, 2), 0);
        x.audit(0, 10);
        check.same("audits don't touch it", x.ofSource(1, 1), 50);
        x.repay(0, 10);
        check.same("nor do repayments", x.ofSource(1, 1), 50);
        check.refused("source -1", Check.ARGUMENT, () -> x.ofSource(-1, 0));
        check.refused("source 4", Check.ARGUMENT, () -> x.ofSource(4, 0));
        check.refused("what -1", Check.ARGUMENT, () -> x.ofSource(0, -1));
        check.refused("what 3", Check.ARGUMENT, () -> x.ofSource(0, 3));
    }
}

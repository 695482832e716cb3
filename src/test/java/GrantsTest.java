/** Promises 9 to 14 and 20 to 22: grants, payments, reports, audits, and what is owed. */
public final class GrantsTest {
    private static final int NONE = Amendgrant.NONE;
    private static final Check check = new Check();

    public static void main(String[] args) {
        promise9Grant();
        promise9Refused();
        promise9HangsOnPassed();
        promise9AtMostForty();
        promise10Pay();
        promise10OnlyLive();
        promise11Report();
        promise12Spend();
        promise13AuditOfLive();
        promise13AuditOfCut();
        promise14Repay();
        promise20OfGrant();
        promise21And22OwesAndReserve();
        check.end();
    }

    private static void promise9Grant() {
        Amendgrant x = Check.withLine(100000);
        check.same("grant", x.grant(0, 0, 50000, NONE, 60), 0);
        check.same("grant", x.grant(0, 7, 49999, NONE, 0), 1);
        check.line(x, 0, 100000, 0, 99999, 1, 0, 0);
        check.refused("less is free", Check.STATE, () -> x.grant(0, 0, 2, NONE, 0));
        check.same("all that is free", x.grant(0, 0, 1, NONE, 0), 2);
        check.line(x, 0, 100000, 0, 100000, 0, 0, 0);
    }

    private static void promise9Refused() {
        Amendgrant x = Check.withLine(1000);
        x.amend(0, 1);
        check.refused("line -1", Check.INDEX, () -> x.grant(-1, 0, 0, NONE, 0));
        check.refused("line 1", Check.INDEX, () -> x.grant(1, 0, 0, NONE, 0));
        check.refused("receiver -1", Check.INDEX, () -> x.grant(0, -1, 0, NONE, 0));
        check.refused("receiver 8", Check.INDEX, () -> x.grant(0, 8, 0, NONE, 0));
        check.refused("amendment 1", Check.INDEX, () -> x.grant(0, 0, 0, 1, 0));
        check.refused("amendment -2", Check.INDEX, () -> x.grant(0, 0, 0, -2, 0));
        check.refused("sum 0", Check.ARGUMENT, () -> x.grant(0, 0, 0, 0, 0));
        check.refused("sum 50001", Check.ARGUMENT, () -> x.grant(0, 0, 50001, 0, 0));
        check.refused("months -1", Check.ARGUMENT, () -> x.grant(0, 0, 1, 0, -1));
        check.refused("months 61", Check.ARGUMENT, () -> x.grant(0, 0, 1, 0, 61));
        check.refused("months 61, less is free", Check.ARGUMENT, () -> x.grant(0, 0, 50000, NONE, 61));
        check.refused("less is free", Check.STATE, () -> x.grant(0, 0, 1001, NONE, 0));
        check.same("the first", x.grant(0, 0, 1000, NONE, 0), 0);
    }

    private static void promise9HangsOnPassed() {
        Amendgrant x = Check.withLine(1000);
        x.line(1, 500);
        x.amend(0, 1);
        check.refused("it is open", Check.STATE, () -> x.grant(0, 0, 1, 0, 0));
        Check.pass(x, 0);
        check.same("of whatever line", x.grant(1, 0, 1, 0, 0), 0);
        x.strike(0);
        check.refused("it is fallen", Check.STATE, () -> x.grant(0, 0, 1, 0, 0));
    }

    private static void promise9AtMostForty() {
        Amendgrant x = Check.withLine(1000);
        for (int number = 0; number < 40; number++) {
            check.same("grant", x.grant(0, number % 8, 1, NONE, 0), number);
        }
        check.refused("one more", Check.STATE, () -> x.grant(0, 0, 1, NONE, 0));
        check.refused("range goes first", Check.ARGUMENT, () -> x.grant(0, 0, 0, NONE, 0));
        x.month(1);
        check.refused("withdrawn ones count", Check.STATE, () -> x.grant(0, 0, 1, NONE, 0));
    }

    private static void promise10Pay() {
        Amendgrant x = new Amendgrant();
        x.line(2, 1000);
        x.line(2, 1000);
        x.income(2, 500);
        x.income(1, 500);
        x.grant(0, 0, 400, NONE, 0);
        x.grant(1, 0, 400, NONE, 0);
        check.same("pay", x.pay(0, 399), 399);
        check.refused("more than its sum", Check.STATE, () -> x.pay(0, 2));
        check.same("pay", x.pay(0, 1), 400);
        check.refused("more than its sum", Check.STATE, () -> x.pay(0, 1));
        check.refused("more than the income", Check.STATE, () -> x.pay(1, 101));
        check.same("all the income", x.pay(1, 100), 100);
        check.refused("more than the income", Check.STATE, () -> x.pay(1, 1));
        check.same("paid", x.ofSource(2, 1), 500);
        check.line(x, 1, 1000, 0, 400, 600, 0, 0);
        check.refused("grant -1", Check.INDEX, () -> x.pay(-1, 0));
        check.refused("grant 2", Check.INDEX, () -> x.pay(2, 0));
        check.refused("amount 0", Check.ARGUMENT, () -> x.pay(0, 0));
        check.refused("amount 50001", Check.ARGUMENT, () -> x.pay(0, 50001));
    }

    private static void promise10OnlyLive() {
        Amendgrant x = Check.withLine(1000);
        x.grant(0, 0, 400, NONE, 0);
        x.grant(0, 0, 400, NONE, 9);
        x.pay(0, 50);
        x.pay(1, 50);
        x.month(1);
        x.audit(1, 50);
        check.refused("it is withdrawn", Check.STATE, () -> x.pay(0, 1));
        check.refused("it is cut", Check.STATE, () -> x.pay(1, 1));
        check.refused("range goes first", Check.ARGUMENT, () -> x.pay(1, 0));
    }

    private static void promise11Report() {
        Amendgrant x = Check.withLine(1000);
        x.grant(0, 0, 100, NONE, 0);
        x.grant(0, 0, 100, NONE, 0);
        x.grant(0, 0, 100, NONE, 9);
        check.same("not before", x.report(0), true);
        check.same("before", x.report(0), false);
        check.same("told", x.ofGrant(0, 7), 1);
        x.month(1);
        check.same("it is kept", x.ofGrant(0, 0), Amendgrant.LIVE);
        check.refused("it is withdrawn", Check.STATE, () -> x.report(1));
        check.same("not told", x.ofGrant(1, 7), 0);
        x.pay(2, 10);
        x.audit(2, 5);
        check.same("a cut one", x.report(2), true);
        check.same("a cut one, before", x.report(2), false);
        check.refused("grant -1", Check.INDEX, () -> x.report(-1));
        check.refused("grant 3", Check.INDEX, () -> x.report(3));
    }

    private static void promise12Spend() {
        Amendgrant x = new Amendgrant();
        x.line(3, 1000);
        x.income(3, 500);
        x.grant(0, 0, 400, NONE, 9);
        check.same("spend", x.spend(0, 200), 400);
        check.refused("less is free", Check.STATE, () -> x.spend(0, 401));
        check.refused("more than the income", Check.STATE, () -> x.spend(0, 301));
        check.same("all the income", x.spend(0, 300), 100);
        x.income(3, 500);
        check.refused("less is free", Check.STATE, () -> x.spend(0, 101));
        check.same("spend", x.spend(0, 1), 99);
        check.same("all that is free", x.spend(0, 99), 0);
        check.line(x, 0, 1000, 600, 1000, 0, 0, 0);
        check.same("paid", x.ofSource(3, 1), 600);
        check.refused("line -1", Check.INDEX, () -> x.spend(-1, 0));
        check.refused("line 1", Check.INDEX, () -> x.spend(1, 0));
        check.refused("amount 0", Check.ARGUMENT, () -> x.spend(0, 0));
        check.refused("amount 50001", Check.ARGUMENT, () -> x.spend(0, 50001));
    }

    private static void promise13AuditOfLive() {
        Amendgrant x = Check.withLine(1000);
        x.grant(0, 5, 400, NONE, 9);
        x.pay(0, 150);
        check.refused("less was paid", Check.STATE, () -> x.audit(0, 151));
        check.same("what is left", x.audit(0, 60), 90);
        check.grant(x, 0, Amendgrant.CUT, 90, 90);
        check.same("owes", x.owes(5), 60);
        check.line(x, 0, 1000, 60, 150, 850, 0, 0);
        check.same("paid from the source", x.ofSource(0, 1), 150);
        check.same("reserve", x.reserve(), 0);
        check.refused("grant -1", Check.INDEX, () -> x.audit(-1, 0));
        check.refused("grant 1", Check.INDEX, () -> x.audit(1, 0));
        check.refused("amount 0", Check.ARGUMENT, () -> x.audit(0, 0));
        check.refused("amount 50001", Check.ARGUMENT, () -> x.audit(0, 50001));
    }

    private static void promise13AuditOfCut() {
        Amendgrant x = Check.withLine(1000);
        x.grant(0, 5, 400, NONE, 0);
        x.grant(0, 6, 400, NONE, 0);
        x.report(0);
        x.pay(0, 150);
        x.pay(1, 150);
        x.audit(0, 60);
        check.same("again", x.audit(0, 1), 89);
        check.same("again", x.audit(0, 89), 0);
        check.refused("nothing is left", Check.STATE, () -> x.audit(0, 1));
        check.grant(x, 0, Amendgrant.CUT, 0, 0);
        check.same("owes", x.owes(5), 150);
        x.month(1);
        check.refused("it is withdrawn", Check.STATE, () -> x.audit(1, 1));
        check.refused("range goes first", Check.ARGUMENT, () -> x.audit(1, 0));
    }

    private static void promise14Repay() {
        Amendgrant x = Check.withLine(1000);
        x.grant(0, 5, 400, NONE, 9);
        x.pay(0, 150);
        x.audit(0, 150);
        check.refused("it owes less", Check.STATE, () -> x.repay(5, 151));
        check.refused("another owes none", Check.STATE, () -> x.repay(4, 1));
        check.same("repay", x.repay(5, 50), 100);
        check.same("reserve", x.reserve(), 50);
        check.same("repay", x.repay(5, 1), 99);
        check.same("repay", x.repay(5, 99), 0);
        check.same("reserve", x.reserve(), 150);
        check.line(x, 0, 1000, 150, 150, 850, 0, 0);
        check.refused("receiver -1", Check.INDEX, () -> x.repay(-1, 0));
        check.refused("receiver 8", Check.INDEX, () -> x.repay(8, 0));
        check.refused("amount 0", Check.ARGUMENT, () -> x.repay(5, 0));
        check.refused("amount 50001", Check.ARGUMENT, () -> x.repay(5, 50001));
    }

    private static void promise20OfGrant() {
        Amendgrant x = Check.withLine(1000);
        x.line(0, 1000);
        Check.passed(x, 0, 1);
        Check.passed(x, 0, 1);
        x.month(3);
        x.grant(1, 6, 300, 1, 4);
        x.grant(0, 2, 20, NONE, 0);
        x.pay(0, 70);
        x.report(0);
        check.grant(x, 0, Amendgrant.LIVE, 300, 70, 1, 6, 1, 7, 1);
        check.grant(x, 1, Amendgrant.LIVE, 20, 0, 0, 2, NONE, 3, 0);
        x.strike(1);
        check.grant(x, 0, Amendgrant.WITHDRAWN, 300, 70, 1, 6, 1, 7, 1);
        check.refused("what -1", Check.ARGUMENT, () -> x.ofGrant(0, -1));
        check.refused("what 8", Check.ARGUMENT, () -> x.ofGrant(0, 8));
        check.refused("grant -1", Check.INDEX, () -> x.ofGrant(-1, 8));
        check.refused("grant 2", Check.INDEX, () -> x.ofGrant(2, 8));
    }

    private static void promise21And22OwesAndReserve() {
        Amendgrant x = Check.withLine(1000);
        x.grant(0, 0, 100, NONE, 0);
        x.grant(0, 7, 100, NONE, 0);
        x.grant(0, 7, 100, NONE, 9);
        x.pay(0, 10);
        x.pay(1, 20);
        x.pay(2, 30);
        x.target(0);
        x.month(1);
        check.same("withdrawn", x.owes(0), 10);
        x.audit(2, 5);
        check.same("withdrawn and clawed back", x.owes(7), 25);
        check.same("another", x.owes(6), 0);
        check.same("reserve", x.reserve(), 0);
        x.repay(7, 25);
        check.same("reserve", x.reserve(), 25);
        check.refused("receiver -1", Check.INDEX, () -> x.owes(-1));
        check.refused("receiver 8", Check.INDEX, () -> x.owes(8));
    }
}

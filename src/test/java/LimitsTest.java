/** Nothing made yet; 10 lines, 40 amendments, 40 grants, and one more; 512 calls. */
public final class LimitsTest {
    private static final int NONE = Amendgrant.NONE;
    private static final Check check = new Check();
    private static final Twins twins = new Twins(check);

    public static void main(String[] args) {
        promise1NothingIsMade();
        promise1ReserveIs0();
        promise1TargetIs5Percent();
        promise1MonthIs0();
        promise1ObjectsShareNothing();
        promise2NoLine();
        promise2TenLines();
        promise2OneLineMore();
        promise2TheTenthIsAsAnyOther();
        promise4NoAmendment();
        promise4FortyForALine();
        promise4OneMore();
        promise4FallenOnesCount();
        promise4AFullListCanBeVotedOn();
        promise5FortyOnOne();
        promise5OneMore();
        promise5AChainOfForty();
        promise9NoGrant();
        promise9Forty();
        promise9OneMore();
        promise9CutAndWithdrawnOnesCount();
        promise9AFullListIsPaidAndCut();
        promise16NoLineMonthPasses();
        promise16Call512IsAnswered();
        promise3Calls512WithTheLargestAmounts();
        check.end();
    }

    private static Amendgrant withTenLines() {
        Amendgrant x = new Amendgrant();
        for (int line = 0; line < 10; line++) {
            x.line(line % 4, 100 * line);
        }
        return x;
    }

    private static Amendgrant withFortyAmendments() {
        Amendgrant x = new Amendgrant();
        x.line(0, 1000);
        for (int amendment = 0; amendment < 40; amendment++) {
            x.amend(0, 1 + amendment);
        }
        return x;
    }

    private static Amendgrant withFortyOnOne() {
        Amendgrant x = new Amendgrant();
        x.line(0, 1000);
        x.amend(0, 1);
        for (int amendment = 1; amendment < 40; amendment++) {
            x.amendOn(0, 1 + amendment);
        }
        return x;
    }

    private static Amendgrant withFortyGrants() {
        Amendgrant x = Check.withLine(1000);
        for (int grant = 0; grant < 40; grant++) {
            x.grant(0, grant % 8, 20, NONE, 5);
        }
        return x;
    }

    private static void promise1NothingIsMade() {
        Amendgrant x = new Amendgrant();
        check.refused("amend", Check.INDEX, () -> x.amend(0, 1));
        check.refused("amendOn", Check.INDEX, () -> x.amendOn(0, 1));
        check.refused("vote", Check.INDEX, () -> x.vote(0, 0, true));
        check.refused("decide", Check.INDEX, () -> x.decide(0));
        check.refused("strike", Check.INDEX, () -> x.strike(0));
        check.refused("grant", Check.INDEX, () -> x.grant(0, 0, 1, NONE, 0));
        check.refused("pay", Check.INDEX, () -> x.pay(0, 1));
        check.refused("report", Check.INDEX, () -> x.report(0));
        check.refused("spend", Check.INDEX, () -> x.spend(0, 1));
        check.refused("audit", Check.INDEX, () -> x.audit(0, 1));
        check.refused("repay", Check.STATE, () -> x.repay(0, 1));
        check.refused("ofLine", Check.INDEX, () -> x.ofLine(0, 0));
        check.refused("standsAnew", Check.INDEX, () -> x.standsAnew(0));
        check.refused("ofAmendment", Check.INDEX, () -> x.ofAmendment(0, 0));
        check.refused("ofGrant", Check.INDEX, () -> x.ofGrant(0, 0));
        for (int source = 0; source < 4; source++) {
            for (int what = 0; what < 3; what++) {
                check.same("ofSource", x.ofSource(source, what), 0);
            }
        }
        for (int receiver = 0; receiver < 8; receiver++) {
            check.same("owes", x.owes(receiver), 0);
        }
        check.same("asked", Twins.asked(x).equals(Twins.asked(new Amendgrant())), true);
    }

    private static void promise1ReserveIs0() {
        check.same("reserve", new Amendgrant().reserve(), 0);
    }

    private static void promise1TargetIs5Percent() {
        check.same("target", new Amendgrant().target(0), 5);
        Amendgrant x = new Amendgrant();
        x.line(0, 1000);
        x.month(1);
        check.same("reserve", x.reserve(), 50);
    }

    private static void promise1MonthIs0() {
        Amendgrant x = Check.withLine(10);
        x.grant(0, 0, 1, NONE, 0);
        check.same("this month", x.ofGrant(0, 6), 0);
        check.same("the next", x.month(1), 1);
    }

    private static void promise1ObjectsShareNothing() {
        Amendgrant x = Check.withLine(1000);
        x.target(7);
        x.month(3);
        x.amend(0, 1);
        Amendgrant y = new Amendgrant();
        check.refused("no line", Check.INDEX, () -> y.ofLine(0, 0));
        check.refused("no amendment", Check.INDEX, () -> y.ofAmendment(0, 0));
        check.same("income", y.ofSource(0, 0), 0);
        check.same("reserve", y.reserve(), 0);
        check.same("target", y.target(9), 5);
        check.same("month", y.month(1), 1);
        check.same("the other's target", x.target(7), 7);
    }

    private static void promise2NoLine() {
        Amendgrant x = new Amendgrant();
        check.same("the first", x.line(2, 5), 0);
        check.refused("line 1", Check.INDEX, () -> x.ofLine(1, 0));
    }

    private static void promise2TenLines() {
        Amendgrant x = new Amendgrant();
        for (int number = 0; number < 10; number++) {
            int next = number;
            check.refused("not yet", Check.INDEX, () -> x.ofLine(next, 0));
            check.same("line", x.line(0, 100 + number), number);
        }
        for (int number = 0; number < 10; number++) {
            check.line(x, number, 100 + number, 0, 0, 100 + number, 0, 0);
        }
    }

    private static void promise2OneLineMore() {
        twins.refused("an eleventh line", Check.STATE, LimitsTest::withTenLines, x -> x.line(0, 1));
        twins.refused("an eleventh line of 0", Check.STATE, LimitsTest::withTenLines, x -> x.line(3, 0));
        Amendgrant x = withTenLines();
        check.refused("line 10", Check.INDEX, () -> x.ofLine(10, 0));
    }

    private static void promise2TheTenthIsAsAnyOther() {
        Amendgrant x = withTenLines();
        x.income(1, 900);
        Check.passed(x, 9, 100);
        x.grant(9, 0, 400, 0, 5);
        x.spend(9, 50);
        check.line(x, 9, 1000, 50, 450, 550, 0, 0);
        x.target(50);
        x.month(1);
        check.line(x, 9, 945, 50, 450, 495, 55, 0);
    }

    private static void promise4NoAmendment() {
        Amendgrant x = Check.withLine(10);
        check.refused("amendOn", Check.INDEX, () -> x.amendOn(0, 1));
        check.refused("vote", Check.INDEX, () -> x.vote(0, 0, true));
        check.refused("decide", Check.INDEX, () -> x.decide(0));
        check.refused("strike", Check.INDEX, () -> x.strike(0));
        check.refused("ofAmendment", Check.INDEX, () -> x.ofAmendment(0, 0));
        check.refused("a grant on it", Check.INDEX, () -> x.grant(0, 0, 1, 0, 0));
        check.same("amend", x.amend(0, 1), 0);
    }

    private static void promise4FortyForALine() {
        Amendgrant x = new Amendgrant();
        x.line(0, 1000);
        for (int number = 0; number < 40; number++) {
            int next = number;
            check.refused("not yet", Check.INDEX, () -> x.ofAmendment(next, 0));
            check.same("amend", x.amend(0, 1 + number), number);
        }
        for (int number = 0; number < 40; number++) {
            check.same("brings", x.ofAmendment(number, 1), 1 + number);
        }
    }

    private static void promise4OneMore() {
        twins.refusedInFull("a 41st by amend", Check.STATE, LimitsTest::withFortyAmendments, x -> x.amend(0, 1));
        twins.refusedInFull("a 41st by amend", Check.STATE, LimitsTest::withFortyOnOne, x -> x.amend(0, 1));
        Amendgrant x = withFortyAmendments();
        check.refused("amendment 40", Check.INDEX, () -> x.ofAmendment(40, 0));
        check.refused("vote on 40", Check.INDEX, () -> x.vote(0, 40, true));
    }

    private static void promise4FallenOnesCount() {
        Amendgrant x = withFortyAmendments();
        Check.fell(x, 0);
        Check.pass(x, 39);
        x.strike(39);
        check.refused("amend", Check.STATE, () -> x.amend(0, 1));
        check.refused("amendOn", Check.STATE, () -> x.amendOn(1, 1));
    }

    private static void promise4AFullListCanBeVotedOn() {
        Amendgrant x = withFortyAmendments();
        for (int number = 0; number < 40; number++) {
            check.same("decide", Check.pass(x, number), Amendgrant.PASSED);
        }
        check.line(x, 0, 1820);
        check.same("strike the last", x.strike(39), 0);
        check.line(x, 0, 1780);
    }

    private static void promise5FortyOnOne() {
        Amendgrant x = withFortyOnOne();
        check.same("the last is on", x.ofAmendment(39, 5), 0);
        check.same("how many are on it", x.ofAmendment(0, 7), 39);
        for (int number = 39; number >= 0; number--) {
            Check.pass(x, number);
        }
        check.line(x, 0, 1820);
        x.strike(0);
        check.same("the last is", x.ofAmendment(39, 0), Amendgrant.FALLEN);
        check.line(x, 0, 1000);
    }

    private static void promise5OneMore() {
        twins.refusedInFull("a 41st by amendOn", Check.STATE, LimitsTest::withFortyAmendments, x -> x.amendOn(39, 1));
        twins.refusedInFull("a 41st by amendOn", Check.STATE, LimitsTest::withFortyOnOne, x -> x.amendOn(0, 1));
    }

    private static void promise5AChainOfForty() {
        Amendgrant x = Check.withLine(100);
        x.amend(0, 1);
        for (int number = 1; number < 40; number++) {
            check.same("amendOn", x.amendOn(number - 1, 1), number);
        }
        for (int number = 39; number > 0; number--) {
            check.same("brings", x.ofAmendment(number, 1), 40 - number);
            check.same("decide", Check.pass(x, number), Amendgrant.PASSED);
        }
        check.same("brings", x.ofAmendment(0, 1), 40);
        check.line(x, 0, 100);
        x.grant(0, 6, 100, 39, 9);
        check.same("decide", Check.fell(x, 0), Amendgrant.FALLEN);
        for (int number = 0; number < 40; number++) {
            check.same("fallen", x.ofAmendment(number, 0), Amendgrant.FALLEN);
        }
        check.grant(x, 0, Amendgrant.WITHDRAWN, 100, 0);
    }

    private static void promise9NoGrant() {
        Amendgrant x = Check.withLine(10);
        check.refused("pay", Check.INDEX, () -> x.pay(0, 1));
        check.refused("report", Check.INDEX, () -> x.report(0));
        check.refused("audit", Check.INDEX, () -> x.audit(0, 1));
        check.refused("ofGrant", Check.INDEX, () -> x.ofGrant(0, 0));
        check.same("grant", x.grant(0, 0, 1, NONE, 0), 0);
    }

    private static void promise9Forty() {
        Amendgrant x = Check.withLine(1000);
        for (int number = 0; number < 40; number++) {
            int next = number;
            check.refused("not yet", Check.INDEX, () -> x.ofGrant(next, 0));
            check.same("grant", x.grant(0, number % 8, 1 + number % 25, NONE, 0), number);
        }
        for (int number = 0; number < 40; number++) {
            check.grant(x, number, Amendgrant.LIVE, 1 + number % 25, 0);
        }
    }

    private static void promise9OneMore() {
        twins.refusedInFull("a 41st grant", Check.STATE, LimitsTest::withFortyGrants, x -> x.grant(0, 0, 1, NONE, 0));
        Amendgrant x = withFortyGrants();
        check.refused("grant 40", Check.INDEX, () -> x.ofGrant(40, 0));
        check.refused("pay 40", Check.INDEX, () -> x.pay(40, 1));
    }

    private static void promise9CutAndWithdrawnOnesCount() {
        Amendgrant x = withFortyGrants();
        x.pay(0, 20);
        x.audit(0, 1);
        check.refused("one is cut", Check.STATE, () -> x.grant(0, 0, 1, NONE, 0));
        x.month(6);
        check.same("one is withdrawn", x.ofGrant(39, 0), Amendgrant.WITHDRAWN);
        check.refused("one is withdrawn", Check.STATE, () -> x.grant(0, 0, 1, NONE, 0));
    }

    private static void promise9AFullListIsPaidAndCut() {
        Amendgrant x = withFortyGrants();
        for (int number = 0; number < 40; number++) {
            check.same("pay", x.pay(number, 1), 1);
        }
        int amendment = x.amend(0, -960);
        check.same("decide", Check.pass(x, amendment), Amendgrant.PASSED);
        for (int number = 0; number < 40; number++) {
            check.grant(x, number, Amendgrant.CUT, 1, 1);
        }
        check.line(x, 0, 40, 0, 40, 0, 0, 0);
    }

    private static void promise16NoLineMonthPasses() {
        Amendgrant x = new Amendgrant();
        x.target(50);
        check.same("month", x.month(24), 24);
        check.same("reserve", x.reserve(), 0);
    }

    private static void promise16Call512IsAnswered() {
        Amendgrant x = new Amendgrant();
        for (int call = 1; call <= 511; call++) {
            check.same("month", x.month(24), 24 * call);
        }
        check.same("the 512th", x.month(1), 24 * 511 + 1);
    }

    private static void promise3Calls512WithTheLargestAmounts() {
        Amendgrant x = new Amendgrant();
        for (int call = 1; call <= 511; call++) {
            check.same("income", x.income(3, 100000), 100000L * call);
        }
        check.same("the 512th", x.ofSource(3, 0), 51100000);
    }
}

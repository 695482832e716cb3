/** The example of README.md, each answer that it tells: change both together. */
public final class ReadmeTest {
    private static final Check check = new Check();

    public static void main(String[] args) {
        example();
        refusals();
        check.end();
    }

    private static void example() {
        Amendgrant budget = new Amendgrant();
        int roads = budget.line(0, 1000);
        check.same("line", roads, 0);
        check.same("income", budget.income(0, 900), 900);

        int more = budget.amend(roads, 300);
        int less = budget.amendOn(more, -100);
        for (int member = 0; member < 5; member++) {
            budget.vote(member, less, true);
            budget.vote(member, more, true);
        }
        check.same("the one on it goes first", budget.decide(less), Amendgrant.PASSED);
        check.same("then that one", budget.decide(more), Amendgrant.PASSED);
        check.same("what stands", budget.ofLine(roads, 0), 1200);

        int bridge = budget.grant(roads, 2, 400, more, 3);
        int lamps = budget.grant(roads, 5, 200, Amendgrant.NONE, 1);
        check.same("paid", budget.pay(bridge, 150), 150);
        check.same("paid", budget.pay(lamps, 80), 80);
        check.same("free then", budget.spend(roads, 100), 500);

        check.same("the bridge is withdrawn", budget.strike(more), 1);
        check.same("its state", budget.ofGrant(bridge, 0), Amendgrant.WITHDRAWN);
        check.same("owes", budget.owes(2), 150);
        check.same("owes then", budget.repay(2, 50), 100);
        check.same("reserve", budget.reserve(), 50);

        check.same("left", budget.audit(lamps, 30), 50);
        check.same("its state", budget.ofGrant(lamps, 0), Amendgrant.CUT);

        check.same("before", budget.target(10), 5);
        check.same("this month", budget.month(1), 1);
        check.same("reserve", budget.reserve(), 100);
        check.same("what stands", budget.ofLine(roads, 0), 950);
        check.same("anew", budget.standsAnew(roads), 950);
    }

    private static void refusals() {
        Amendgrant budget = Check.withLine(1000);
        check.refused("a wrong number", Check.INDEX, () -> budget.ofLine(7, 0));
        check.refused("a value out of range", Check.ARGUMENT, () -> budget.spend(0, 0));
        check.refused("what can't be done now", Check.STATE, () -> budget.spend(0, 1001));
        check.refused("a source is a value", Check.ARGUMENT, () -> budget.ofSource(4, 0));
    }
}

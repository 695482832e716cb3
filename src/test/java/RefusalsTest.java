import java.util.function.Consumer;
import java.util.function.Supplier;

/**
 * Each exception of each method, that such a call changes nothing, and which exception is thrown
 * if several apply: the one that the throws clause names first.
 */
public final class RefusalsTest {
    private static final int NONE = Amendgrant.NONE;
    private static final Check check = new Check();
    private static final Twins twins = new Twins(check);

    // In the busy budget.
    private static final int PASSED_ONE = 0, PASSED_ON_IT = 1, OPEN_ONE = 2, ON_THE_OPEN_ONE = 3, FALLEN_ONE = 4;
    private static final int LIVE_ONE = 0, CUT_ONE = 1, WITHDRAWN_ONE = 2, PAID_ONE = 3;

    public static void main(String[] args) {
        theBusyBudget();
        promise2Line();
        promise2RangeGoesBeforeTen();
        promise3Income();
        promise4Amend();
        promise4WhichGoesFirst();
        promise5AmendOn();
        promise5WhichGoesFirst();
        promise6Vote();
        promise6NumberGoesBeforeOpen();
        promise7Decide();
        promise8Strike();
        promise9GrantIndex();
        promise9GrantArgument();
        promise9GrantState();
        promise9IndexGoesFirst();
        promise9ArgumentGoesBeforeState();
        promise10PayIndexAndArgument();
        promise10PayState();
        promise10WhichGoesFirst();
        promise11Report();
        promise12SpendIndexAndArgument();
        promise12SpendState();
        promise12WhichGoesFirst();
        promise13AuditIndexAndArgument();
        promise13AuditState();
        promise13WhichGoesFirst();
        promise14Repay();
        promise14WhichGoesFirst();
        promise15Target();
        promise16Month();
        promise17OfLine();
        promise18StandsAnew();
        promise19OfAmendment();
        promise20OfGrant();
        promise21Owes();
        promise23OfSource();
        check.end();
    }

    /** Something of everything, with few calls. Source 0 has 150 to pay still, source 1 has 60. */
    private static Amendgrant busy() {
        Amendgrant x = new Amendgrant();
        x.line(0, 1000);
        x.line(1, 500);
        x.income(0, 420);
        x.income(1, 200);
        x.amend(0, 200);
        x.amendOn(PASSED_ONE, 50);
        Check.pass(x, PASSED_ON_IT);
        Check.pass(x, PASSED_ONE);
        x.amend(1, -30);
        x.amendOn(OPEN_ONE, 7);
        x.decide(ON_THE_OPEN_ONE);
        Check.votes(x, ON_THE_OPEN_ONE, 2, 1);
        Check.votes(x, OPEN_ONE, 5, 1);
        x.amend(1, 9);
        Check.fell(x, FALLEN_ONE);
        x.grant(0, 0, 300, PASSED_ON_IT, 5);
        x.pay(LIVE_ONE, 100);
        x.grant(0, 1, 200, NONE, 5);
        x.pay(CUT_ONE, 150);
        x.audit(CUT_ONE, 50);
        x.grant(1, 2, 150, NONE, 0);
        x.pay(WITHDRAWN_ONE, 60);
        x.grant(1, 3, 80, NONE, 4);
        x.pay(PAID_ONE, 80);
        x.report(PAID_ONE);
        x.spend(0, 20);
        x.month(1);
        x.repay(1, 10);
        x.target(8);
        return x;
    }

    private static void theBusyBudget() {
        Amendgrant x = busy();
        check.same("amendment", x.ofAmendment(PASSED_ONE, 0), Amendgrant.PASSED);
        check.same("amendment", x.ofAmendment(PASSED_ON_IT, 0), Amendgrant.PASSED);
        check.same("amendment", x.ofAmendment(OPEN_ONE, 0), Amendgrant.OPEN);
        check.same("amendment", x.ofAmendment(ON_THE_OPEN_ONE, 0), Amendgrant.OPEN);
        check.same("its round", x.ofAmendment(ON_THE_OPEN_ONE, 2), 2);
        check.same("amendment", x.ofAmendment(FALLEN_ONE, 0), Amendgrant.FALLEN);
        check.grant(x, LIVE_ONE, Amendgrant.LIVE, 300, 100);
        check.grant(x, CUT_ONE, Amendgrant.CUT, 100, 100);
        check.grant(x, WITHDRAWN_ONE, Amendgrant.WITHDRAWN, 150, 60);
        check.grant(x, PAID_ONE, Amendgrant.LIVE, 80, 80);
        check.line(x, 0, 1172, 70, 470, 702, 78, 0);
        check.line(x, 1, 491, 0, 140, 351, 9, 0);
        check.same("reserve", x.reserve(), 97);
        check.same("owes", x.owes(1), 40);
        check.same("owes", x.owes(2), 60);
        check.same("paid", x.ofSource(0, 1), 270);
        check.same("paid", x.ofSource(1, 1), 140);
    }

    private static void index(String what, Consumer<Amendgrant> call) {
        twins.refused(what, Check.INDEX, RefusalsTest::busy, call);
    }

    private static void argument(String what, Consumer<Amendgrant> call) {
        twins.refused(what, Check.ARGUMENT, RefusalsTest::busy, call);
    }

    private static void state(String what, Consumer<Amendgrant> call) {
        twins.refused(what, Check.STATE, RefusalsTest::busy, call);
    }

    private static void promise2Line() {
        argument("line: source -1", x -> x.line(-1, 5));
        argument("line: source 4", x -> x.line(4, 5));
        argument("line: amount -1", x -> x.line(0, -1));
        argument("line: amount 100001", x -> x.line(0, 100001));
        argument("line: both", x -> x.line(4, 100001));
    }

    private static Amendgrant withTenLines() {
        Amendgrant x = new Amendgrant();
        for (int line = 0; line < 10; line++) {
            x.line(0, 100);
        }
        return x;
    }

    private static void promise2RangeGoesBeforeTen() {
        twins.refused("line: an eleventh", Check.STATE, RefusalsTest::withTenLines, x -> x.line(0, 5));
        twins.refused("line: source -1, 10 lines", Check.ARGUMENT, RefusalsTest::withTenLines, x -> x.line(-1, 5));
        twins.refused("line: source 4, 10 lines", Check.ARGUMENT, RefusalsTest::withTenLines, x -> x.line(4, 5));
        twins.refused("line: amount -1, 10 lines", Check.ARGUMENT, RefusalsTest::withTenLines, x -> x.line(0, -1));
        twins.refused("line: amount 100001, 10 lines", Check.ARGUMENT, RefusalsTest::withTenLines,
            x -> x.line(0, 100001));
    }

    private static void promise3Income() {
        argument("income: source -1", x -> x.income(-1, 5));
        argument("income: source 4", x -> x.income(4, 5));
        argument("income: amount 0", x -> x.income(0, 0));
        argument("income: amount -1", x -> x.income(0, -1));
        argument("income: amount 100001", x -> x.income(0, 100001));
        argument("income: both", x -> x.income(-1, 0));
    }

    private static void promise4Amend() {
        index("amend: line -1", x -> x.amend(-1, 5));
        index("amend: line 2", x -> x.amend(2, 5));
        argument("amend: more 0", x -> x.amend(0, 0));
        argument("amend: more -50001", x -> x.amend(0, -50001));
        argument("amend: more 50001", x -> x.amend(0, 50001));
        twins.refusedInFull("amend: a 41st", Check.STATE, RefusalsTest::withFortyAmendments, x -> x.amend(0, 5));
    }

    /** The first is OPEN, the next two are on it, and one of these is PASSED, one FALLEN. */
    private static Amendgrant withFortyAmendments() {
        Amendgrant x = Check.withLine(1000);
        x.amend(0, 5);
        x.amendOn(0, 5);
        x.amendOn(0, 5);
        for (int amendment = 3; amendment < 40; amendment++) {
            x.amend(0, 5);
        }
        Check.pass(x, 1);
        Check.fell(x, 2);
        return x;
    }

    private static void inFull(String what, Class<? extends RuntimeException> due, Consumer<Amendgrant> call) {
        twins.refusedInFull(what + ", 40 amendments", due, RefusalsTest::withFortyAmendments, call);
    }

    private static void promise4WhichGoesFirst() {
        index("amend: no line, more 0", x -> x.amend(2, 0));
        index("amend: no line, more 50001", x -> x.amend(-1, 50001));
        inFull("amend: no line", Check.INDEX, x -> x.amend(1, 5));
        inFull("amend: no line, more 0", Check.INDEX, x -> x.amend(-1, 0));
        inFull("amend: more 0", Check.ARGUMENT, x -> x.amend(0, 0));
        inFull("amend: more -50001", Check.ARGUMENT, x -> x.amend(0, -50001));
    }

    private static void promise5AmendOn() {
        index("amendOn: amendment -1", x -> x.amendOn(-1, 5));
        index("amendOn: amendment 5", x -> x.amendOn(5, 5));
        argument("amendOn: more 0", x -> x.amendOn(OPEN_ONE, 0));
        argument("amendOn: more -50001", x -> x.amendOn(OPEN_ONE, -50001));
        argument("amendOn: more 50001", x -> x.amendOn(OPEN_ONE, 50001));
        state("amendOn: on a PASSED one", x -> x.amendOn(PASSED_ONE, 5));
        state("amendOn: on a PASSED one on it", x -> x.amendOn(PASSED_ON_IT, 5));
        state("amendOn: on a FALLEN one", x -> x.amendOn(FALLEN_ONE, 5));
        inFull("amendOn: a 41st", Check.STATE, x -> x.amendOn(0, 5));
    }

    private static void promise5WhichGoesFirst() {
        index("amendOn: no amendment, more 0", x -> x.amendOn(5, 0));
        index("amendOn: no amendment, more 50001", x -> x.amendOn(-1, 50001));
        argument("amendOn: more 0, on a PASSED one", x -> x.amendOn(PASSED_ONE, 0));
        argument("amendOn: more 50001, on a FALLEN one", x -> x.amendOn(FALLEN_ONE, 50001));
        inFull("amendOn: no amendment", Check.INDEX, x -> x.amendOn(40, 5));
        inFull("amendOn: no amendment, more 0", Check.INDEX, x -> x.amendOn(-1, 0));
        inFull("amendOn: more 0", Check.ARGUMENT, x -> x.amendOn(0, 0));
        inFull("amendOn: more 0, on a PASSED one", Check.ARGUMENT, x -> x.amendOn(1, 0));
        inFull("amendOn: on a PASSED one", Check.STATE, x -> x.amendOn(1, 5));
        inFull("amendOn: on a FALLEN one", Check.STATE, x -> x.amendOn(2, 5));
    }

    private static void promise6Vote() {
        index("vote: member -1", x -> x.vote(-1, OPEN_ONE, true));
        index("vote: member 9", x -> x.vote(9, OPEN_ONE, false));
        index("vote: amendment -1", x -> x.vote(0, -1, true));
        index("vote: amendment 5", x -> x.vote(0, 5, true));
        index("vote: both", x -> x.vote(9, 5, true));
        state("vote: it is PASSED", x -> x.vote(7, PASSED_ONE, true));
        state("vote: it is PASSED, changed", x -> x.vote(0, PASSED_ON_IT, false));
        state("vote: it is FALLEN", x -> x.vote(0, FALLEN_ONE, true));
        state("vote: it is FALLEN, changed", x -> x.vote(8, FALLEN_ONE, true));
    }

    private static void promise6NumberGoesBeforeOpen() {
        index("vote: no member, it is PASSED", x -> x.vote(9, PASSED_ONE, true));
        index("vote: no member, it is FALLEN", x -> x.vote(-1, FALLEN_ONE, true));
    }

    private static void promise7Decide() {
        index("decide: amendment -1", x -> x.decide(-1));
        index("decide: amendment 5", x -> x.decide(5));
        state("decide: it is PASSED", x -> x.decide(PASSED_ONE));
        state("decide: it is FALLEN", x -> x.decide(FALLEN_ONE));
        state("decide: one on it is OPEN", x -> x.decide(OPEN_ONE));
    }

    private static void promise8Strike() {
        index("strike: amendment -1", x -> x.strike(-1));
        index("strike: amendment 5", x -> x.strike(5));
        state("strike: it is OPEN", x -> x.strike(OPEN_ONE));
        state("strike: it is OPEN in round 2", x -> x.strike(ON_THE_OPEN_ONE));
        state("strike: it is FALLEN", x -> x.strike(FALLEN_ONE));
        Supplier<Amendgrant> struck = () -> {
            Amendgrant x = busy();
            x.strike(PASSED_ONE);
            return x;
        };
        twins.refused("strike: it is struck", Check.STATE, struck, x -> x.strike(PASSED_ONE));
        twins.refused("strike: it fell with that", Check.STATE, struck, x -> x.strike(PASSED_ON_IT));
    }

    private static void promise9GrantIndex() {
        index("grant: line -1", x -> x.grant(-1, 0, 5, NONE, 0));
        index("grant: line 2", x -> x.grant(2, 0, 5, NONE, 0));
        index("grant: receiver -1", x -> x.grant(0, -1, 5, NONE, 0));
        index("grant: receiver 8", x -> x.grant(0, 8, 5, NONE, 0));
        index("grant: amendment -2", x -> x.grant(0, 0, 5, -2, 0));
        index("grant: amendment 5", x -> x.grant(0, 0, 5, 5, 0));
    }

    private static void promise9GrantArgument() {
        argument("grant: sum 0", x -> x.grant(0, 0, 0, NONE, 0));
        argument("grant: sum -1", x -> x.grant(0, 0, -1, NONE, 0));
        argument("grant: sum 50001", x -> x.grant(0, 0, 50001, NONE, 0));
        argument("grant: months -1", x -> x.grant(0, 0, 5, NONE, -1));
        argument("grant: months 61", x -> x.grant(0, 0, 5, NONE, 61));
    }

    private static Amendgrant withFortyGrants() {
        Amendgrant x = Check.withLine(1000);
        x.amend(0, 5);
        for (int grant = 0; grant < 40; grant++) {
            x.grant(0, 0, 20, NONE, 5);
        }
        return x;
    }

    private static void promise9GrantState() {
        state("grant: less is free", x -> x.grant(0, 0, 703, NONE, 0));
        state("grant: less is free, on a PASSED one", x -> x.grant(1, 0, 352, PASSED_ONE, 0));
        state("grant: on an OPEN one", x -> x.grant(0, 0, 5, OPEN_ONE, 0));
        state("grant: on an OPEN one in round 2", x -> x.grant(0, 0, 5, ON_THE_OPEN_ONE, 0));
        state("grant: on a FALLEN one", x -> x.grant(0, 0, 5, FALLEN_ONE, 0));
        twins.refusedInFull("grant: a 41st", Check.STATE, RefusalsTest::withFortyGrants,
            x -> x.grant(0, 0, 5, NONE, 0));
    }

    private static void promise9IndexGoesFirst() {
        index("grant: no line, sum 0", x -> x.grant(2, 0, 0, NONE, 0));
        index("grant: no receiver, months 61", x -> x.grant(0, 8, 5, NONE, 61));
        index("grant: no amendment, sum 0", x -> x.grant(0, 0, 0, 5, 0));
        index("grant: no amendment, months -1", x -> x.grant(0, 0, 5, -2, -1));
        index("grant: no receiver, less is free", x -> x.grant(0, -1, 703, NONE, 0));
        index("grant: no amendment, less is free", x -> x.grant(0, 0, 703, 5, 0));
        index("grant: no line, on an OPEN one", x -> x.grant(-1, 0, 5, OPEN_ONE, 0));
        index("grant: no receiver, on a FALLEN one", x -> x.grant(0, 8, 5, FALLEN_ONE, 0));
        index("grant: no receiver, sum 0, on an OPEN one", x -> x.grant(0, 8, 0, OPEN_ONE, 61));
        twins.refusedInFull("grant: no line, 40 grants", Check.INDEX, RefusalsTest::withFortyGrants,
            x -> x.grant(1, 0, 5, NONE, 0));
        twins.refusedInFull("grant: no receiver, 40 grants", Check.INDEX, RefusalsTest::withFortyGrants,
            x -> x.grant(0, 8, 5, NONE, 0));
        twins.refusedInFull("grant: no amendment, 40 grants", Check.INDEX, RefusalsTest::withFortyGrants,
            x -> x.grant(0, 0, 5, 1, 0));
    }

    private static void promise9ArgumentGoesBeforeState() {
        argument("grant: sum 50001, more than is free", x -> x.grant(0, 0, 50001, NONE, 0));
        argument("grant: months 61, less is free", x -> x.grant(0, 0, 703, NONE, 61));
        argument("grant: sum 0, on an OPEN one", x -> x.grant(0, 0, 0, OPEN_ONE, 0));
        argument("grant: months -1, on a FALLEN one", x -> x.grant(0, 0, 5, FALLEN_ONE, -1));
        twins.refusedInFull("grant: sum 0, 40 grants", Check.ARGUMENT, RefusalsTest::withFortyGrants,
            x -> x.grant(0, 0, 0, NONE, 0));
        twins.refusedInFull("grant: months 61, 40 grants", Check.ARGUMENT, RefusalsTest::withFortyGrants,
            x -> x.grant(0, 0, 5, NONE, 61));
        twins.refusedInFull("grant: on an OPEN one, 40 grants", Check.STATE, RefusalsTest::withFortyGrants,
            x -> x.grant(0, 0, 5, 0, 0));
    }

    private static void promise10PayIndexAndArgument() {
        index("pay: grant -1", x -> x.pay(-1, 5));
        index("pay: grant 4", x -> x.pay(4, 5));
        argument("pay: amount 0", x -> x.pay(LIVE_ONE, 0));
        argument("pay: amount -1", x -> x.pay(LIVE_ONE, -1));
        argument("pay: amount 50001", x -> x.pay(LIVE_ONE, 50001));
    }

    private static void promise10PayState() {
        state("pay: it is CUT", x -> x.pay(CUT_ONE, 1));
        state("pay: it is WITHDRAWN", x -> x.pay(WITHDRAWN_ONE, 1));
        state("pay: more than its sum", x -> x.pay(LIVE_ONE, 201));
        state("pay: all of it is paid", x -> x.pay(PAID_ONE, 1));
        state("pay: more than the income", x -> x.pay(LIVE_ONE, 151));
    }

    private static void promise10WhichGoesFirst() {
        index("pay: no grant, amount 0", x -> x.pay(4, 0));
        index("pay: no grant, amount 50001", x -> x.pay(-1, 50001));
        argument("pay: amount 0, it is CUT", x -> x.pay(CUT_ONE, 0));
        argument("pay: amount 50001, it is WITHDRAWN", x -> x.pay(WITHDRAWN_ONE, 50001));
        argument("pay: amount 50001, more than its sum and the income", x -> x.pay(LIVE_ONE, 50001));
    }

    private static void promise11Report() {
        index("report: grant -1", x -> x.report(-1));
        index("report: grant 4", x -> x.report(4));
        state("report: it is WITHDRAWN", x -> x.report(WITHDRAWN_ONE));
        Supplier<Amendgrant> struck = () -> {
            Amendgrant x = busy();
            x.report(LIVE_ONE);
            x.strike(PASSED_ON_IT);
            return x;
        };
        twins.refused("report: reported on, and WITHDRAWN", Check.STATE, struck, x -> x.report(LIVE_ONE));
    }

    private static void promise12SpendIndexAndArgument() {
        index("spend: line -1", x -> x.spend(-1, 5));
        index("spend: line 2", x -> x.spend(2, 5));
        argument("spend: amount 0", x -> x.spend(0, 0));
        argument("spend: amount -1", x -> x.spend(0, -1));
        argument("spend: amount 50001", x -> x.spend(0, 50001));
    }

    private static Amendgrant busyWithMoreIncome() {
        Amendgrant x = busy();
        x.income(0, 50000);
        return x;
    }

    private static void promise12SpendState() {
        twins.refused("spend: less is free", Check.STATE, RefusalsTest::busyWithMoreIncome, x -> x.spend(0, 703));
        state("spend: more than the income", x -> x.spend(0, 151));
        state("spend: more than the income", x -> x.spend(1, 61));
        state("spend: both", x -> x.spend(0, 703));
    }

    private static void promise12WhichGoesFirst() {
        index("spend: no line, amount 0", x -> x.spend(2, 0));
        index("spend: no line, amount 50001", x -> x.spend(-1, 50001));
        argument("spend: amount 50001, less is free", x -> x.spend(0, 50001));
        argument("spend: amount 50001, more than the income", x -> x.spend(1, 50001));
    }

    private static void promise13AuditIndexAndArgument() {
        index("audit: grant -1", x -> x.audit(-1, 5));
        index("audit: grant 4", x -> x.audit(4, 5));
        argument("audit: amount 0", x -> x.audit(LIVE_ONE, 0));
        argument("audit: amount -1", x -> x.audit(LIVE_ONE, -1));
        argument("audit: amount 50001", x -> x.audit(LIVE_ONE, 50001));
    }

    private static void promise13AuditState() {
        state("audit: it is WITHDRAWN", x -> x.audit(WITHDRAWN_ONE, 1));
        state("audit: less was paid of a LIVE one", x -> x.audit(LIVE_ONE, 101));
        state("audit: less was paid of a CUT one", x -> x.audit(CUT_ONE, 101));
        state("audit: less was paid of one that is all paid", x -> x.audit(PAID_ONE, 81));
    }

    private static void promise13WhichGoesFirst() {
        index("audit: no grant, amount 0", x -> x.audit(4, 0));
        index("audit: no grant, amount 50001", x -> x.audit(-1, 50001));
        argument("audit: amount 0, it is WITHDRAWN", x -> x.audit(WITHDRAWN_ONE, 0));
        argument("audit: amount 50001, it is WITHDRAWN", x -> x.audit(WITHDRAWN_ONE, 50001));
        argument("audit: amount 50001, less was paid", x -> x.audit(LIVE_ONE, 50001));
    }

    private static void promise14Repay() {
        index("repay: receiver -1", x -> x.repay(-1, 5));
        index("repay: receiver 8", x -> x.repay(8, 5));
        argument("repay: amount 0", x -> x.repay(1, 0));
        argument("repay: amount -1", x -> x.repay(1, -1));
        argument("repay: amount 50001", x -> x.repay(1, 50001));
        state("repay: it owes less", x -> x.repay(1, 41));
        state("repay: it owes less", x -> x.repay(2, 61));
        state("repay: it owes nothing", x -> x.repay(0, 1));
    }

    private static void promise14WhichGoesFirst() {
        index("repay: no receiver, amount 0", x -> x.repay(8, 0));
        index("repay: no receiver, amount 50001", x -> x.repay(-1, 50001));
        argument("repay: amount 50001, it owes less", x -> x.repay(1, 50001));
        argument("repay: amount 0, it owes nothing", x -> x.repay(0, 0));
    }

    private static void promise15Target() {
        argument("target: percent -1", x -> x.target(-1));
        argument("target: percent 51", x -> x.target(51));
        Amendgrant x = busy();
        check.refused("target: percent 51", Check.ARGUMENT, () -> x.target(51));
        check.same("the percent stays", x.target(0), 8);
    }

    private static void promise16Month() {
        argument("month: months 0", x -> x.month(0));
        argument("month: months -1", x -> x.month(-1));
        argument("month: months 25", x -> x.month(25));
    }

    private static void promise17OfLine() {
        index("ofLine: line -1", x -> x.ofLine(-1, 0));
        index("ofLine: line 2", x -> x.ofLine(2, 0));
        argument("ofLine: what -1", x -> x.ofLine(0, -1));
        argument("ofLine: what 7", x -> x.ofLine(0, 7));
        index("ofLine: no line, what -1", x -> x.ofLine(-1, -1));
        index("ofLine: no line, what 7", x -> x.ofLine(2, 7));
    }

    private static void promise18StandsAnew() {
        index("standsAnew: line -1", x -> x.standsAnew(-1));
        index("standsAnew: line 2", x -> x.standsAnew(2));
    }

    private static void promise19OfAmendment() {
        index("ofAmendment: amendment -1", x -> x.ofAmendment(-1, 0));
        index("ofAmendment: amendment 5", x -> x.ofAmendment(5, 0));
        argument("ofAmendment: what -1", x -> x.ofAmendment(0, -1));
        argument("ofAmendment: what 8", x -> x.ofAmendment(0, 8));
        index("ofAmendment: no amendment, what -1", x -> x.ofAmendment(-1, -1));
        index("ofAmendment: no amendment, what 8", x -> x.ofAmendment(5, 8));
    }

    private static void promise20OfGrant() {
        index("ofGrant: grant -1", x -> x.ofGrant(-1, 0));
        index("ofGrant: grant 4", x -> x.ofGrant(4, 0));
        argument("ofGrant: what -1", x -> x.ofGrant(0, -1));
        argument("ofGrant: what 8", x -> x.ofGrant(0, 8));
        index("ofGrant: no grant, what -1", x -> x.ofGrant(-1, -1));
        index("ofGrant: no grant, what 8", x -> x.ofGrant(4, 8));
    }

    private static void promise21Owes() {
        index("owes: receiver -1", x -> x.owes(-1));
        index("owes: receiver 8", x -> x.owes(8));
    }

    private static void promise23OfSource() {
        argument("ofSource: source -1", x -> x.ofSource(-1, 0));
        argument("ofSource: source 4", x -> x.ofSource(4, 0));
        argument("ofSource: what -1", x -> x.ofSource(0, -1));
        argument("ofSource: what 3", x -> x.ofSource(0, 3));
        argument("ofSource: both", x -> x.ofSource(4, 3));
    }
}

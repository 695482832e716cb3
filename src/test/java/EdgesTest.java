/** Promises 9 to 16, and 'Months': just enough and one too much, just in time and one too late. */
public final class EdgesTest {
    private static final int NONE = Amendgrant.NONE;
    private static final Check check = new Check();

    public static void main(String[] args) {
        promise9JustEnoughIsFree();
        promise9OneLessIsFree();
        promise9FreeByAnAmendment();
        promise9TheAmendmentIsPassed();
        promise9MonthsCountFromThisMonth();
        promise10JustItsSum();
        promise10OneMoreThanItsSum();
        promise10JustTheIncome();
        promise10OneMoreThanTheIncome();
        promise10IncomeOfItsSourceAlone();
        promise10NoIncome();
        promise10PaymentsAddUp();
        promise10OnlyLiveOnes();
        promise11TheFirstReport();
        promise11OfACutOne();
        promise11OfAWithdrawnOne();
        promise12JustWhatIsFree();
        promise12OneMoreThanIsFree();
        promise12JustTheIncome();
        promise12OneMoreThanTheIncome();
        promise12NothingIsFree();
        promise13AllThatWasPaid();
        promise13OneMoreThanWasPaid();
        promise13NothingWasPaid();
        promise13OfAllPaid();
        promise13OfACutOne();
        promise13OfAWithdrawnOne();
        promise13CountsAsSpent();
        promise14AllThatItOwes();
        promise14OneMoreThanItOwes();
        promise14ItOwesNothing();
        promise14IntoAReserveBelow0();
        promise15FromNowOn();
        promise15OfZeroPercent();
        promise16InItsLastMonth();
        promise16OneMonthLate();
        promise16InZeroMonths();
        promise16ReportedOnInTime();
        promise16ReportedOnTooLate();
        promise16CutOnesStayCut();
        promise16ManyMonthsAreOneByOne();
        promise16WithdrawnAheadOfTaking();
        promise16ATenthRoundedDown();
        promise16ATenthOfWhatIsFree();
        promise16NothingIsFree();
        promise16AtMostWhatItLacks();
        promise16ItHasItsTarget();
        promise16ItHasMoreThanItsTarget();
        promise16ItHasOneLessThanItsTarget();
        promise16ByRisingLines();
        promise16TargetRoundedDown();
        promise16TargetOfAllLinesTogether();
        promise16TargetAheadOfTaking();
        promise16TargetOfEachMonthAnew();
        promise16ReserveBelow0IsFilled();
        promise16ReserveBelow0WithTarget0();
        promise16MostOfAll();
        promise17And18TookAndCovered();
        promise20LastMonth();
        check.end();
    }

    /** Source 0 with a line of some amount, and some income. */
    private static Amendgrant with(int amount, int income) {
        Amendgrant x = new Amendgrant();
        x.line(0, amount);
        x.income(0, income);
        return x;
    }

    /** Grant 0 from line 0 to receiver 2, of which some is paid. */
    private static Amendgrant withGrant(int sum, int paid, int months) {
        Amendgrant x = with(1000, 1000);
        x.target(0);
        x.grant(0, 2, sum, NONE, months);
        if (paid > 0) {
            x.pay(0, paid);
        }
        return x;
    }

    private static void promise9JustEnoughIsFree() {
        Amendgrant x = with(100, 1);
        check.same("a part", x.grant(0, 0, 40, NONE, 0), 0);
        check.same("all that is free", x.grant(0, 0, 60, NONE, 0), 1);
        check.line(x, 0, 100, 0, 100, 0, 0, 0);
    }

    private static void promise9OneLessIsFree() {
        Amendgrant x = with(100, 1);
        check.refused("one more than stands", Check.STATE, () -> x.grant(0, 0, 101, NONE, 0));
        x.grant(0, 0, 40, NONE, 0);
        check.refused("one more than is free", Check.STATE, () -> x.grant(0, 0, 61, NONE, 0));
        x.spend(0, 1);
        check.refused("one was spent", Check.STATE, () -> x.grant(0, 0, 60, NONE, 0));
        check.same("what is free", x.grant(0, 0, 59, NONE, 0), 1);
        check.refused("nothing is free", Check.STATE, () -> x.grant(0, 0, 1, NONE, 0));
    }

    private static void promise9FreeByAnAmendment() {
        Amendgrant x = with(100, 1);
        x.amend(0, 5);
        check.refused("it is OPEN", Check.STATE, () -> x.grant(0, 0, 101, NONE, 0));
        Check.pass(x, 0);
        check.refused("one more", Check.STATE, () -> x.grant(0, 0, 106, NONE, 0));
        check.same("just so much", x.grant(0, 0, 105, NONE, 0), 0);
    }

    private static void promise9TheAmendmentIsPassed() {
        Amendgrant x = with(100, 1);
        x.amend(0, 5);
        check.refused("in round 1", Check.STATE, () -> x.grant(0, 0, 1, 0, 0));
        Check.votes(x, 0, 4, 0);
        x.decide(0);
        check.refused("in round 2", Check.STATE, () -> x.grant(0, 0, 1, 0, 0));
        x.vote(0, 0, true);
        check.refused("with its vote", Check.STATE, () -> x.grant(0, 0, 1, 0, 0));
        x.decide(0);
        check.same("it is PASSED", x.grant(0, 0, 1, 0, 0), 0);
        x.strike(0);
        check.refused("it is struck", Check.STATE, () -> x.grant(0, 0, 1, 0, 0));
        check.same("on none", x.grant(0, 0, 1, NONE, 0), 1);
    }

    private static void promise9MonthsCountFromThisMonth() {
        Amendgrant x = with(100, 1);
        x.grant(0, 0, 1, NONE, 0);
        x.month(24);
        x.grant(0, 0, 1, NONE, 0);
        x.grant(0, 0, 1, NONE, 60);
        check.same("in month 0", x.ofGrant(0, 6), 0);
        check.same("in month 24", x.ofGrant(1, 6), 24);
        check.same("60 months behind", x.ofGrant(2, 6), 84);
        check.same("withdrawn", x.ofGrant(0, 0), Amendgrant.WITHDRAWN);
        check.same("live", x.ofGrant(1, 0), Amendgrant.LIVE);
    }

    private static void promise10JustItsSum() {
        Amendgrant x = withGrant(60, 0, 9);
        check.same("all at once", x.pay(0, 60), 60);
        Amendgrant y = withGrant(60, 59, 9);
        check.same("what lacks", y.pay(0, 1), 60);
        check.grant(y, 0, Amendgrant.LIVE, 60, 60);
    }

    private static void promise10OneMoreThanItsSum() {
        Amendgrant x = withGrant(60, 0, 9);
        check.refused("at once", Check.STATE, () -> x.pay(0, 61));
        Amendgrant y = withGrant(60, 59, 9);
        check.refused("two where one lacks", Check.STATE, () -> y.pay(0, 2));
        Amendgrant z = withGrant(60, 60, 9);
        check.refused("all is paid", Check.STATE, () -> z.pay(0, 1));
        check.refused("the most", Check.STATE, () -> z.pay(0, 50000));
    }

    private static void promise10JustTheIncome() {
        Amendgrant x = with(100, 60);
        x.grant(0, 0, 80, NONE, 9);
        check.same("all the income", x.pay(0, 60), 60);
        check.same("paid from the source", x.ofSource(0, 1), 60);
    }

    private static void promise10OneMoreThanTheIncome() {
        Amendgrant x = with(100, 60);
        x.grant(0, 0, 80, NONE, 9);
        check.refused("at once", Check.STATE, () -> x.pay(0, 61));
        x.pay(0, 60);
        check.refused("behind that", Check.STATE, () -> x.pay(0, 1));
        x.income(0, 1);
        check.refused("two more", Check.STATE, () -> x.pay(0, 2));
        check.same("one more came in", x.pay(0, 1), 61);
    }

    private static void promise10IncomeOfItsSourceAlone() {
        Amendgrant x = with(100, 10);
        x.line(0, 100);
        x.line(1, 100);
        x.income(1, 1000);
        x.grant(0, 0, 80, NONE, 9);
        check.refused("another has enough", Check.STATE, () -> x.pay(0, 11));
        x.spend(1, 3);
        check.refused("another line took of it", Check.STATE, () -> x.pay(0, 8));
        x.spend(2, 50);
        check.same("another source doesn't", x.pay(0, 7), 7);
    }

    private static void promise10NoIncome() {
        Amendgrant x = new Amendgrant();
        x.line(0, 100);
        x.grant(0, 0, 80, NONE, 9);
        check.refused("no income", Check.STATE, () -> x.pay(0, 1));
        check.grant(x, 0, Amendgrant.LIVE, 80, 0);
    }

    private static void promise10PaymentsAddUp() {
        Amendgrant x = withGrant(60, 0, 9);
        for (int paid = 1; paid <= 60; paid++) {
            check.same("paid then", x.pay(0, 1), paid);
        }
        check.same("paid from the source", x.ofSource(0, 1), 60);
    }

    private static void promise10OnlyLiveOnes() {
        Amendgrant x = withGrant(60, 20, 0);
        x.audit(0, 1);
        check.refused("it is CUT", Check.STATE, () -> x.pay(0, 1));
        Amendgrant y = withGrant(60, 20, 0);
        y.month(1);
        check.refused("it is WITHDRAWN", Check.STATE, () -> y.pay(0, 1));
        Amendgrant z = withGrant(60, 20, 0);
        z.report(0);
        z.month(1);
        check.same("it is LIVE", z.pay(0, 1), 21);
    }

    private static void promise11TheFirstReport() {
        Amendgrant x = withGrant(60, 0, 0);
        check.same("none before", x.ofGrant(0, 7), 0);
        check.same("the first", x.report(0), true);
        check.same("one before", x.ofGrant(0, 7), 1);
        check.same("the second", x.report(0), false);
        check.same("the third", x.report(0), false);
    }

    private static void promise11OfACutOne() {
        Amendgrant x = withGrant(60, 20, 0);
        x.audit(0, 20);
        check.same("the first", x.report(0), true);
        check.same("the second", x.report(0), false);
        Amendgrant y = withGrant(60, 20, 0);
        y.report(0);
        y.audit(0, 20);
        check.same("reported on before", y.report(0), false);
    }

    private static void promise11OfAWithdrawnOne() {
        Amendgrant x = withGrant(60, 20, 0);
        x.month(1);
        check.refused("it is WITHDRAWN", Check.STATE, () -> x.report(0));
        check.same("it was not reported on", x.ofGrant(0, 7), 0);
    }

    private static void promise12JustWhatIsFree() {
        Amendgrant x = with(100, 1000);
        x.grant(0, 0, 40, NONE, 9);
        check.same("all that is free", x.spend(0, 60), 0);
        check.line(x, 0, 100, 60, 100, 0, 0, 0);
    }

    private static void promise12OneMoreThanIsFree() {
        Amendgrant x = with(100, 1000);
        check.refused("one more than stands", Check.STATE, () -> x.spend(0, 101));
        x.grant(0, 0, 40, NONE, 9);
        check.refused("one more than is free", Check.STATE, () -> x.spend(0, 61));
        check.same("one less", x.spend(0, 59), 1);
        check.refused("one more than is free", Check.STATE, () -> x.spend(0, 2));
    }

    private static void promise12JustTheIncome() {
        Amendgrant x = with(100, 60);
        check.same("all the income", x.spend(0, 60), 40);
        check.same("paid from the source", x.ofSource(0, 1), 60);
    }

    private static void promise12OneMoreThanTheIncome() {
        Amendgrant x = with(100, 60);
        check.refused("at once", Check.STATE, () -> x.spend(0, 61));
        x.grant(0, 0, 10, NONE, 9);
        x.pay(0, 10);
        check.refused("a grant was paid of it", Check.STATE, () -> x.spend(0, 51));
        check.same("just so much", x.spend(0, 50), 40);
        check.refused("behind that", Check.STATE, () -> x.spend(0, 1));
    }

    private static void promise12NothingIsFree() {
        Amendgrant x = with(0, 60);
        check.refused("nothing stands", Check.STATE, () -> x.spend(0, 1));
        Amendgrant y = with(60, 60);
        y.grant(0, 0, 60, NONE, 9);
        check.refused("all is bound", Check.STATE, () -> y.spend(0, 1));
    }

    private static void promise13AllThatWasPaid() {
        Amendgrant x = withGrant(60, 20, 9);
        check.same("nothing is left", x.audit(0, 20), 0);
        check.grant(x, 0, Amendgrant.CUT, 0, 0);
        check.same("owes", x.owes(2), 20);
        check.line(x, 0, 1000, 20, 20, 980, 0, 0);
    }

    private static void promise13OneMoreThanWasPaid() {
        Amendgrant x = withGrant(60, 20, 9);
        check.refused("within its sum", Check.STATE, () -> x.audit(0, 21));
        check.grant(x, 0, Amendgrant.LIVE, 60, 20);
        check.same("owes", x.owes(2), 0);
        check.same("one less", x.audit(0, 19), 1);
        check.refused("more than is left", Check.STATE, () -> x.audit(0, 2));
    }

    private static void promise13NothingWasPaid() {
        Amendgrant x = withGrant(60, 0, 9);
        check.refused("nothing was paid", Check.STATE, () -> x.audit(0, 1));
        check.grant(x, 0, Amendgrant.LIVE, 60, 0);
    }

    private static void promise13OfAllPaid() {
        Amendgrant x = withGrant(60, 60, 9);
        check.same("one less is left", x.audit(0, 1), 59);
        check.grant(x, 0, Amendgrant.CUT, 59, 59);
        check.line(x, 0, 1000, 1, 60, 940, 0, 0);
    }

    private static void promise13OfACutOne() {
        Amendgrant x = withGrant(60, 20, 9);
        x.audit(0, 5);
        check.same("again", x.audit(0, 15), 0);
        check.refused("nothing is left", Check.STATE, () -> x.audit(0, 1));
        check.grant(x, 0, Amendgrant.CUT, 0, 0);
        check.same("owes", x.owes(2), 20);
    }

    private static void promise13OfAWithdrawnOne() {
        Amendgrant x = withGrant(60, 20, 0);
        x.month(1);
        check.refused("it is WITHDRAWN", Check.STATE, () -> x.audit(0, 1));
        check.same("owes", x.owes(2), 20);
        check.line(x, 0, 1000, 0, 20, 980, 0, 0);
    }

    private static void promise13CountsAsSpent() {
        Amendgrant x = withGrant(60, 20, 9);
        x.spend(0, 100);
        x.audit(0, 5);
        check.line(x, 0, 1000, 105, 120, 880, 0, 0);
        check.same("it is not paid anew", x.ofSource(0, 1), 120);
    }

    private static Amendgrant withDebt(int debt) {
        Amendgrant x = withGrant(100, 100, 9);
        x.audit(0, debt);
        return x;
    }

    private static void promise14AllThatItOwes() {
        Amendgrant x = withDebt(30);
        check.same("all at once", x.repay(2, 30), 0);
        check.same("reserve", x.reserve(), 30);
        Amendgrant y = withDebt(30);
        check.same("a part", y.repay(2, 29), 1);
        check.same("the rest", y.repay(2, 1), 0);
        check.same("reserve", y.reserve(), 30);
    }

    private static void promise14OneMoreThanItOwes() {
        Amendgrant x = withDebt(30);
        check.refused("at once", Check.STATE, () -> x.repay(2, 31));
        x.repay(2, 29);
        check.refused("behind a part", Check.STATE, () -> x.repay(2, 2));
        check.same("reserve", x.reserve(), 29);
    }

    private static void promise14ItOwesNothing() {
        Amendgrant x = withDebt(30);
        check.refused("another owes", Check.STATE, () -> x.repay(1, 1));
        x.repay(2, 30);
        check.refused("it owes no more", Check.STATE, () -> x.repay(2, 1));
        check.same("reserve", x.reserve(), 30);
    }

    private static void promise14IntoAReserveBelow0() {
        Amendgrant x = withDebt(30);
        Check.passed(x, 0, -920);
        check.same("it covers 20", x.reserve(), -20);
        check.same("repay", x.repay(2, 19), 11);
        check.same("below 0", x.reserve(), -1);
        x.repay(2, 1);
        check.same("0", x.reserve(), 0);
        x.repay(2, 1);
        check.same("above 0", x.reserve(), 1);
    }

    private static void promise15FromNowOn() {
        Amendgrant x = with(1000, 1);
        x.target(2);
        check.same("not at once", x.reserve(), 0);
        x.month(1);
        check.same("2 percent of 1000", x.reserve(), 20);
        x.target(3);
        x.month(1);
        check.same("3 percent of 980", x.reserve(), 29);
        check.same("before", x.target(3), 3);
    }

    private static void promise15OfZeroPercent() {
        Amendgrant x = with(1000, 1);
        x.target(0);
        x.month(24);
        check.same("reserve", x.reserve(), 0);
        check.line(x, 0, 1000, 0, 0, 1000, 0, 0);
    }

    private static void promise16InItsLastMonth() {
        Amendgrant x = withGrant(60, 20, 3);
        x.month(3);
        check.grant(x, 0, Amendgrant.LIVE, 60, 20);
        check.same("owes", x.owes(2), 0);
        check.same("it can be reported on", x.report(0), true);
    }

    private static void promise16OneMonthLate() {
        Amendgrant x = withGrant(60, 20, 3);
        x.month(4);
        check.grant(x, 0, Amendgrant.WITHDRAWN, 60, 20);
        check.same("owes", x.owes(2), 20);
        x.month(1);
        check.same("owes once", x.owes(2), 20);
    }

    private static void promise16InZeroMonths() {
        Amendgrant x = withGrant(60, 20, 0);
        check.same("this month", x.ofGrant(0, 0), Amendgrant.LIVE);
        x.month(1);
        check.same("the next", x.ofGrant(0, 0), Amendgrant.WITHDRAWN);
    }

    private static void promise16ReportedOnInTime() {
        Amendgrant x = withGrant(60, 20, 3);
        x.month(3);
        x.report(0);
        x.month(1);
        check.grant(x, 0, Amendgrant.LIVE, 60, 20);
        x.month(24);
        check.grant(x, 0, Amendgrant.LIVE, 60, 20);
        check.same("owes", x.owes(2), 0);
    }

    private static void promise16ReportedOnTooLate() {
        Amendgrant x = withGrant(60, 20, 3);
        x.month(4);
        check.refused("too late", Check.STATE, () -> x.report(0));
    }

    private static void promise16CutOnesStayCut() {
        Amendgrant x = withGrant(60, 20, 3);
        x.audit(0, 5);
        x.month(4);
        check.grant(x, 0, Amendgrant.CUT, 15, 15);
        check.same("owes for the audit", x.owes(2), 5);
    }

    private static void promise16ManyMonthsAreOneByOne() {
        Amendgrant x = with(1000, 1);
        x.target(50);
        Amendgrant y = with(1000, 1);
        y.target(50);
        check.same("at once", x.month(3), 3);
        y.month(1);
        y.month(1);
        check.same("one by one", y.month(1), 3);
        check.line(x, 0, 729, 0, 0, 729, 271, 0);
        check.line(y, 0, 729, 0, 0, 729, 271, 0);
    }

    private static void promise16WithdrawnAheadOfTaking() {
        Amendgrant x = with(1000, 1000);
        x.target(50);
        x.grant(0, 0, 1000, NONE, 0);
        x.pay(0, 300);
        x.month(1);
        check.line(x, 0, 930, 0, 300, 630, 70, 0);
        check.same("reserve", x.reserve(), 70);
    }

    private static void promise16ATenthRoundedDown() {
        int[][] rows = {{0, 0}, {1, 0}, {9, 0}, {10, 1}, {11, 1}, {19, 1}, {20, 2}, {99, 9}, {100, 10}};
        for (int[] row : rows) {
            Amendgrant x = with(row[0], 1);
            x.target(50);
            x.month(1);
            check.same("took of " + row[0], x.ofLine(0, 4), row[1]);
            check.same("reserve", x.reserve(), row[1]);
            check.line(x, 0, row[0] - row[1], 0, 0, row[0] - row[1], row[1], 0);
        }
    }

    private static void promise16ATenthOfWhatIsFree() {
        int[][] rows = {{991, 0}, {990, 1}, {981, 1}, {980, 2}};
        for (int[] row : rows) {
            Amendgrant x = with(1000, 1000);
            x.target(50);
            x.spend(0, row[0]);
            x.month(1);
            check.line(x, 0, 1000 - row[1], row[0], row[0], 1000 - row[1] - row[0], row[1], 0);
        }
    }

    private static void promise16NothingIsFree() {
        Amendgrant x = with(1000, 1000);
        x.target(50);
        x.spend(0, 1000);
        x.month(24);
        check.line(x, 0, 1000, 1000, 1000, 0, 0, 0);
        check.same("reserve", x.reserve(), 0);
    }

    private static void promise16AtMostWhatItLacks() {
        int[][] rows = {{9, 90}, {10, 100}, {11, 100}};
        for (int[] row : rows) {
            Amendgrant x = with(1000, 1);
            x.target(row[0]);
            x.month(1);
            check.same("took", x.ofLine(0, 4), row[1]);
            check.same("reserve", x.reserve(), row[1]);
        }
    }

    /** Of a line of 1000 with 100 paid and clawed back, some of it repaid; 5 percent are 50. */
    private static int takenWithReserve(int reserve) {
        Amendgrant x = withDebt(100);
        x.repay(2, reserve);
        x.target(5);
        x.month(1);
        check.same("reserve", x.reserve(), reserve + x.ofLine(0, 4));
        return x.ofLine(0, 4);
    }

    private static void promise16ItHasItsTarget() {
        check.same("took", takenWithReserve(50), 0);
    }

    private static void promise16ItHasMoreThanItsTarget() {
        check.same("took", takenWithReserve(51), 0);
        check.same("took", takenWithReserve(100), 0);
    }

    private static void promise16ItHasOneLessThanItsTarget() {
        check.same("took", takenWithReserve(49), 1);
    }

    private static void promise16ByRisingLines() {
        Amendgrant x = new Amendgrant();
        for (int line = 0; line < 4; line++) {
            x.line(3 - line, 1000);
        }
        x.target(6);
        x.month(1);
        check.same("the first", x.ofLine(0, 4), 100);
        check.same("the second", x.ofLine(1, 4), 100);
        check.same("what it lacks still", x.ofLine(2, 4), 40);
        check.same("it has its target", x.ofLine(3, 4), 0);
        check.same("reserve", x.reserve(), 240);
    }

    private static void promise16TargetRoundedDown() {
        int[][] rows = {{19, 0}, {20, 1}, {39, 1}, {40, 2}, {99, 4}, {100, 5}};
        for (int[] row : rows) {
            Amendgrant x = with(row[0], 1);
            x.month(1);
            check.same("5 percent of " + row[0], x.reserve(), row[1]);
        }
        Amendgrant x = with(199, 1);
        x.target(1);
        x.month(1);
        check.same("1 percent of 199", x.reserve(), 1);
    }

    private static void promise16TargetOfAllLinesTogether() {
        Amendgrant x = new Amendgrant();
        x.line(0, 19);
        x.line(1, 1);
        x.month(1);
        check.same("5 percent of 20", x.reserve(), 1);
        Amendgrant y = new Amendgrant();
        y.line(0, 19);
        y.line(1, 0);
        y.month(1);
        check.same("5 percent of 19", y.reserve(), 0);
    }

    private static void promise16TargetAheadOfTaking() {
        Amendgrant x = new Amendgrant();
        x.line(0, 1000);
        x.line(0, 1000);
        x.target(10);
        x.month(1);
        check.same("the first", x.ofLine(0, 4), 100);
        check.same("the second", x.ofLine(1, 4), 100);
    }

    private static void promise16TargetOfEachMonthAnew() {
        Amendgrant x = with(1000, 1);
        x.target(19);
        x.month(2);
        check.same("19 percent of 900", x.reserve(), 171);
    }

    /** The reserve is 30 below 0; of line 1, 1000 are free. */
    private static Amendgrant withReserveBelow0() {
        Amendgrant x = with(100, 100);
        x.line(0, 1000);
        x.spend(0, 100);
        Check.passed(x, 0, -30);
        return x;
    }

    private static void promise16ReserveBelow0IsFilled() {
        Amendgrant x = withReserveBelow0();
        check.same("reserve", x.reserve(), -30);
        x.target(6);
        x.month(1);
        check.same("6 percent of 1100 are 66, a tenth is 100, it lacks 96", x.reserve(), 66);
        check.line(x, 1, 904, 0, 0, 904, 96, 0);
    }

    private static void promise16ReserveBelow0WithTarget0() {
        Amendgrant x = withReserveBelow0();
        x.target(0);
        x.month(1);
        check.same("reserve", x.reserve(), 0);
        check.line(x, 1, 970, 0, 0, 970, 30, 0);
        x.month(1);
        check.same("no more", x.reserve(), 0);
    }

    private static void promise16MostOfAll() {
        Amendgrant x = new Amendgrant();
        for (int line = 0; line < 10; line++) {
            x.line(0, 100000);
        }
        for (int number = 0; number < 40; number++) {
            Check.passed(x, number % 10, 50000);
        }
        check.same("stands", x.ofSource(0, 2), 3000000);
        x.target(50);
        x.month(1);
        check.same("a tenth of each", x.reserve(), 300000);
        x.month(24);
        check.same("half of what stands", x.reserve() >= (x.ofSource(0, 2)) / 2, true);
    }

    private static void promise17And18TookAndCovered() {
        Amendgrant x = with(1000, 1000);
        x.month(1);
        check.line(x, 0, 950, 0, 0, 950, 50, 0);
        x.spend(0, 950);
        Check.passed(x, 0, -1);
        check.line(x, 0, 950, 950, 950, 0, 50, 1);
        Check.passed(x, 0, -1);
        check.line(x, 0, 950, 950, 950, 0, 50, 2);
        x.strike(0);
        check.line(x, 0, 951, 950, 950, 1, 50, 2);
    }

    private static void promise20LastMonth() {
        Amendgrant x = with(1000, 1000);
        x.month(7);
        x.grant(0, 0, 1, NONE, 0);
        x.grant(0, 0, 1, NONE, 1);
        x.grant(0, 0, 1, NONE, 60);
        check.same("this month", x.ofGrant(0, 6), 7);
        check.same("the next", x.ofGrant(1, 6), 8);
        check.same("the last", x.ofGrant(2, 6), 67);
        x.month(1);
        check.same("behind", x.ofGrant(0, 0), Amendgrant.WITHDRAWN);
        check.same("this month", x.ofGrant(1, 0), Amendgrant.LIVE);
    }
}

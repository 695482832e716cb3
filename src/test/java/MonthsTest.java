/** Promises 15 and 16: the target, and what happens as months pass. */
public final class MonthsTest {
    private static final int NONE = Amendgrant.NONE;
    private static final Check check = new Check();

    public static void main(String[] args) {
        promise15Target();
        promise16Month();
        promise16UnreportedGrants();
        promise16ReserveTakes();
        promise16ReserveTakesByRisingLines();
        promise16TakesOfWhatIsFreedAtOnce();
        promise16TargetIsReckonedAheadOfTaking();
        promise16TargetOfMuch();
        promise16ReserveBelowZero();
        check.end();
    }

    private static void promise15Target() {
        Amendgrant x = Check.withLine(1000);
        check.same("before", x.target(50), 5);
        check.same("before", x.target(0), 50);
        check.refused("percent -1", Check.ARGUMENT, () -> x.target(-1));
        check.refused("percent 51", Check.ARGUMENT, () -> x.target(51));
        x.month(1);
        check.same("none is taken for 0", x.reserve(), 0);
        check.same("before", x.target(7), 0);
        check.same("not at once", x.reserve(), 0);
        x.month(1);
        check.same("reserve", x.reserve(), 70);
    }

    private static void promise16Month() {
        Amendgrant x = new Amendgrant();
        check.same("month", x.month(1), 1);
        check.same("month", x.month(24), 25);
        check.refused("months 0", Check.ARGUMENT, () -> x.month(0));
        check.refused("months -1", Check.ARGUMENT, () -> x.month(-1));
        check.refused("months 25", Check.ARGUMENT, () -> x.month(25));
        check.same("month", x.month(2), 27);
    }

    private static void promise16UnreportedGrants() {
        Amendgrant x = Check.withLine(1000);
        x.target(0);
        x.grant(0, 0, 100, NONE, 2);
        x.grant(0, 1, 100, NONE, 2);
        x.grant(0, 2, 100, NONE, 3);
        x.grant(0, 3, 100, NONE, 2);
        x.pay(0, 60);
        x.pay(3, 60);
        x.report(1);
        x.audit(3, 10);
        x.month(2);
        check.grant(x, 0, Amendgrant.LIVE, 100, 60);
        x.month(1);
        check.grant(x, 0, Amendgrant.WITHDRAWN, 100, 60);
        check.grant(x, 1, Amendgrant.LIVE, 100, 0);
        check.grant(x, 2, Amendgrant.LIVE, 100, 0);
        check.grant(x, 3, Amendgrant.CUT, 50, 50);
        check.same("owes", x.owes(0), 60);
        check.same("owes for the audit alone", x.owes(3), 10);
        check.line(x, 0, 1000, 10, 320, 680, 0, 0);
        x.month(24);
        check.grant(x, 1, Amendgrant.LIVE, 100, 0);
        check.grant(x, 2, Amendgrant.WITHDRAWN, 100, 0);
    }

    private static void promise16ReserveTakes() {
        Amendgrant x = Check.withLine(1000);
        x.target(25);
        x.month(1);
        check.line(x, 0, 900, 0, 0, 900, 100, 0);
        x.month(1);
        check.line(x, 0, 810, 0, 0, 810, 190, 0);
        x.month(1);
        check.line(x, 0, 798, 0, 0, 798, 202, 0);
        check.same("reserve", x.reserve(), 202);
        x.month(1);
        check.same("it has its target", x.reserve(), 202);
        x.target(10);
        x.month(1);
        check.same("it gives none back", x.reserve(), 202);
    }

    private static void promise16ReserveTakesByRisingLines() {
        Amendgrant x = new Amendgrant();
        x.line(0, 500);
        x.line(1, 300);
        x.line(2, 0);
        x.line(3, 19);
        x.line(0, 5000);
        x.income(0, 500);
        x.spend(0, 461);
        x.grant(1, 0, 300, NONE, 60);
        x.target(3);
        x.month(1);
        check.line(x, 0, 497, 461, 461, 36, 3, 0);
        check.line(x, 1, 300, 0, 300, 0, 0, 0);
        check.line(x, 2, 0, 0, 0, 0, 0, 0);
        check.line(x, 3, 18, 0, 0, 18, 1, 0);
        check.line(x, 4, 4830, 0, 0, 4830, 170, 0);
        check.same("reserve", x.reserve(), 174);
    }

    private static void promise16TakesOfWhatIsFreedAtOnce() {
        Amendgrant x = Check.withLine(1000);
        x.target(50);
        x.grant(0, 0, 1000, NONE, 0);
        x.month(1);
        check.line(x, 0, 900, 0, 0, 900, 100, 0);
    }

    private static void promise16TargetIsReckonedAheadOfTaking() {
        Amendgrant x = new Amendgrant();
        x.line(0, 1000);
        x.line(0, 1000);
        x.target(10);
        x.month(1);
        check.same("a tenth of both", x.reserve(), 200);
        check.line(x, 1, 900, 0, 0, 900, 100, 0);
        Amendgrant y = Check.withLine(199);
        y.target(1);
        y.month(1);
        check.same("rounded down", y.reserve(), 1);
    }

    private static void promise16TargetOfMuch() {
        Amendgrant x = new Amendgrant();
        for (int line = 0; line < 10; line++) {
            x.line(0, 100000);
            for (int i = 0; i < 4; i++) {
                Check.passed(x, line, 50000);
            }
        }
        x.target(50);
        x.month(1);
        check.same("a tenth of all", x.reserve(), 300000);
        x.month(24);
        check.line(x, 0, x.ofLine(0, 0));
        check.same("all is kept", x.reserve() + x.ofSource(0, 2), 3000000);
        check.same("reserve", x.reserve(), 1031700);
    }

    private static void promise16ReserveBelowZero() {
        Amendgrant x = Check.withLine(1000);
        x.line(0, 100);
        x.spend(0, 900);
        Check.passed(x, 0, -1000);
        check.same("below 0", x.reserve(), -900);
        check.line(x, 0, 900, 900, 900, 0, 0, 900);
        x.month(1);
        check.same("a tenth of what is free", x.reserve(), -890);
        check.line(x, 1, 90, 0, 0, 90, 10, 0);
        check.line(x, 0, 900, 900, 900, 0, 0, 900);
    }
}

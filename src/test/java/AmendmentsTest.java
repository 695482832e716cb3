/** Promises 4 to 8 and 19: amendments, votes in two rounds, and what falls. */
public final class AmendmentsTest {
    private static final Check check = new Check();

    public static void main(String[] args) {
        promise4Amend();
        promise4AtMostForty();
        promise5AmendOn();
        promise6Vote();
        promise7RoundOne();
        promise7RoundTwo();
        promise7OpenOnes();
        promise7FallenTakesAllOnIt();
        promise7PassedBalancesItsLine();
        promise8Strike();
        promise8StrikeBalancesOnlyItsLine();
        promise8StrikeUnderAnOpenOne();
        promise19OfAmendment();
        promise19WhatItBrings();
        check.end();
    }

    private static void promise4Amend() {
        Amendgrant x = Check.withLine(10);
        check.same("amend", x.amend(0, -50000), 0);
        check.same("amend", x.amend(0, 50000), 1);
        check.refused("line -1", Check.INDEX, () -> x.amend(-1, 0));
        check.refused("line 1", Check.INDEX, () -> x.amend(1, 0));
        check.refused("more 0", Check.ARGUMENT, () -> x.amend(0, 0));
        check.refused("more -50001", Check.ARGUMENT, () -> x.amend(0, -50001));
        check.refused("more 50001", Check.ARGUMENT, () -> x.amend(0, 50001));
        check.same("is open", x.ofAmendment(1, 0), Amendgrant.OPEN);
        check.same("in round 1", x.ofAmendment(1, 2), 1);
        check.line(x, 0, 10);
        check.same("amend", x.amend(0, 1), 2);
    }

    private static void promise4AtMostForty() {
        Amendgrant x = Check.withLine(10);
        for (int number = 0; number < 40; number++) {
            int due = number;
            check.same("number", number == 0 ? x.amend(0, 1) : x.amendOn(number - 1, 1), due);
        }
        check.refused("one more", Check.STATE, () -> x.amend(0, 1));
        check.refused("one more on it", Check.STATE, () -> x.amendOn(0, 1));
        check.refused("range goes first", Check.ARGUMENT, () -> x.amend(0, 0));
        check.refused("range goes first", Check.ARGUMENT, () -> x.amendOn(0, 0));
        check.refused("number goes first", Check.INDEX, () -> x.amendOn(40, 0));
        for (int number = 39; number >= 0; number--) {
            Check.votes(x, number, 5, 0);
            x.decide(number);
        }
        check.line(x, 0, 50);
        check.same("a chain of forty", x.ofAmendment(0, 1), 40);
        x.strike(0);
        check.line(x, 0, 10);
        check.same("the deepest falls", x.ofAmendment(39, 0), Amendgrant.FALLEN);
    }

    private static void promise5AmendOn() {
        Amendgrant x = Check.withLine(10);
        x.amend(0, 5);
        check.same("amendOn", x.amendOn(0, -50000), 1);
        check.same("amendOn", x.amendOn(0, 50000), 2);
        check.same("amendOn", x.amendOn(1, 1), 3);
        check.refused("amendment -1", Check.INDEX, () -> x.amendOn(-1, 0));
        check.refused("amendment 4", Check.INDEX, () -> x.amendOn(4, 0));
        check.refused("more 0", Check.ARGUMENT, () -> x.amendOn(0, 0));
        check.refused("more 50001", Check.ARGUMENT, () -> x.amendOn(0, 50001));
        check.refused("more -50001", Check.ARGUMENT, () -> x.amendOn(0, -50001));
        Check.pass(x, 2);
        check.refused("on a passed one", Check.STATE, () -> x.amendOn(2, 1));
        check.refused("range goes first", Check.ARGUMENT, () -> x.amendOn(2, 0));
        Check.fell(x, 3);
        check.refused("on a fallen one", Check.STATE, () -> x.amendOn(3, 1));
    }

    private static void promise6Vote() {
        Amendgrant x = Check.withLine(10);
        x.amend(0, 5);
        check.same("vote", x.vote(0, 0, true), 1);
        check.same("again", x.vote(0, 0, true), 1);
        check.same("another", x.vote(8, 0, true), 2);
        check.same("changed", x.vote(0, 0, false), 1);
        check.same("against", x.ofAmendment(0, 4), 1);
        check.same("against again", x.vote(0, 0, false), 1);
        check.same("against", x.ofAmendment(0, 4), 1);
        check.same("changed back", x.vote(0, 0, true), 2);
        check.same("against", x.ofAmendment(0, 4), 0);
        check.refused("member -1", Check.INDEX, () -> x.vote(-1, 0, true));
        check.refused("member 9", Check.INDEX, () -> x.vote(9, 0, true));
        check.refused("amendment -1", Check.INDEX, () -> x.vote(0, -1, true));
        check.refused("amendment 1", Check.INDEX, () -> x.vote(0, 1, true));
        Check.pass(x, 0);
        check.refused("it is passed", Check.STATE, () -> x.vote(0, 0, false));
        check.refused("number goes first", Check.INDEX, () -> x.vote(9, 0, false));
        x.strike(0);
        check.refused("it is fallen", Check.STATE, () -> x.vote(0, 0, false));
    }

    private static void promise7RoundOne() {
        int[][] rows = {{5, 4, Amendgrant.PASSED}, {4, 5, Amendgrant.FALLEN}, {4, 4, Amendgrant.OPEN},
            {9, 0, Amendgrant.PASSED}, {0, 9, Amendgrant.FALLEN}, {0, 0, Amendgrant.OPEN}, {4, 0, Amendgrant.OPEN}};
        for (int[] row : rows) {
            Amendgrant x = Check.withLine(10);
            x.amend(0, 5);
            Check.votes(x, 0, row[0], row[1]);
            check.same("decide", x.decide(0), row[2]);
            check.same("its state", x.ofAmendment(0, 0), row[2]);
            boolean isOver = row[2] != Amendgrant.OPEN;
            check.same("its round", x.ofAmendment(0, 2), isOver ? 1 : 2);
            check.same("votes for", x.ofAmendment(0, 3), isOver ? row[0] : 0);
            check.same("votes against", x.ofAmendment(0, 4), isOver ? row[1] : 0);
            check.line(x, 0, row[2] == Amendgrant.PASSED ? 15 : 10);
            if (isOver) {
                check.refused("it is over", Check.STATE, () -> x.decide(0));
            }
        }
    }

    private static void promise7RoundTwo() {
        int[][] rows = {{1, 0, Amendgrant.PASSED}, {0, 0, Amendgrant.FALLEN}, {4, 4, Amendgrant.FALLEN},
            {4, 3, Amendgrant.PASSED}, {3, 4, Amendgrant.FALLEN}, {5, 4, Amendgrant.PASSED}, {4, 5, Amendgrant.FALLEN}};
        for (int[] row : rows) {
            Amendgrant x = Check.withLine(10);
            x.amend(0, 5);
            Check.votes(x, 0, 4, 4);
            check.same("round 2 begins", x.decide(0), Amendgrant.OPEN);
            Check.votes(x, 0, row[0], row[1]);
            check.same("decide", x.decide(0), row[2]);
            check.same("its round", x.ofAmendment(0, 2), 2);
            check.same("votes for", x.ofAmendment(0, 3), row[0]);
            check.line(x, 0, row[2] == Amendgrant.PASSED ? 15 : 10);
        }
    }

    private static void promise7OpenOnes() {
        Amendgrant x = Check.withLine(10);
        x.amend(0, 5);
        x.amendOn(0, 1);
        x.amendOn(1, 1);
        Check.votes(x, 0, 5, 0);
        Check.votes(x, 1, 5, 0);
        check.refused("one on it is open", Check.STATE, () -> x.decide(0));
        check.refused("one on it is open", Check.STATE, () -> x.decide(1));
        check.refused("amendment -1", Check.INDEX, () -> x.decide(-1));
        check.refused("amendment 3", Check.INDEX, () -> x.decide(3));
        check.same("round 2 begins", x.decide(2), Amendgrant.OPEN);
        check.refused("that is open still", Check.STATE, () -> x.decide(1));
        check.same("no votes", x.decide(2), Amendgrant.FALLEN);
        check.same("decide", x.decide(1), Amendgrant.PASSED);
        check.same("decide", x.decide(0), Amendgrant.PASSED);
        check.line(x, 0, 16);
    }

    private static void promise7FallenTakesAllOnIt() {
        Amendgrant x = Check.withLine(1000);
        x.line(1, 1000);
        x.amend(0, 5);
        x.amendOn(0, 1);
        x.amendOn(1, 1);
        x.amend(0, 7);
        Check.pass(x, 2);
        Check.pass(x, 1);
        Check.pass(x, 3);
        x.grant(0, 3, 100, 2, 9);
        x.grant(1, 3, 100, 1, 9);
        x.grant(0, 3, 100, 3, 9);
        x.pay(0, 40);
        check.same("decide", Check.fell(x, 0), Amendgrant.FALLEN);
        check.same("one on it", x.ofAmendment(1, 0), Amendgrant.FALLEN);
        check.same("one on that", x.ofAmendment(2, 0), Amendgrant.FALLEN);
        check.same("another", x.ofAmendment(3, 0), Amendgrant.PASSED);
        check.grant(x, 0, Amendgrant.WITHDRAWN, 100, 40);
        check.grant(x, 1, Amendgrant.WITHDRAWN, 100, 0);
        check.grant(x, 2, Amendgrant.LIVE, 100, 0);
        check.same("owes", x.owes(3), 40);
        check.line(x, 0, 1007, 0, 140, 867, 0, 0);
        check.line(x, 1, 1000, 0, 0, 1000, 0, 0);
    }

    private static void promise7PassedBalancesItsLine() {
        Amendgrant x = Check.withLine(1000);
        x.grant(0, 0, 300, Amendgrant.NONE, 9);
        x.grant(0, 0, 300, Amendgrant.NONE, 9);
        x.grant(0, 0, 300, Amendgrant.NONE, 9);
        x.pay(1, 300);
        x.pay(2, 100);
        check.same("just enough stands", Check.pass(x, x.amend(0, -100)), Amendgrant.PASSED);
        check.grant(x, 2, Amendgrant.LIVE, 300, 100);
        Check.passed(x, 0, -201);
        check.grant(x, 2, Amendgrant.CUT, 100, 100);
        check.grant(x, 1, Amendgrant.CUT, 300, 300);
        check.grant(x, 0, Amendgrant.CUT, 0, 0);
        check.line(x, 0, 699, 0, 400, 299, 0, 0);
        check.same("the reserve covers none", x.reserve(), 0);
        check.same("a cut one is not owed", x.owes(0), 0);
        Check.passed(x, 0, -300);
        check.line(x, 0, 400, 0, 400, 0, 0, 1);
        Check.passed(x, 0, -50000);
        check.line(x, 0, 400, 0, 400, 0, 0, 50001);
        check.same("it is below 0", x.reserve(), -50001);
    }

    private static void promise8Strike() {
        Amendgrant x = Check.withLine(1000);
        x.amend(0, 500);
        x.amendOn(0, 100);
        x.amendOn(1, 50);
        Check.pass(x, 2);
        Check.pass(x, 1);
        Check.pass(x, 0);
        x.grant(0, 1, 400, 2, 9);
        x.grant(0, 2, 400, Amendgrant.NONE, 9);
        x.grant(0, 3, 400, Amendgrant.NONE, 9);
        x.pay(0, 30);
        x.pay(2, 200);
        check.refused("amendment -1", Check.INDEX, () -> x.strike(-1));
        check.refused("amendment 3", Check.INDEX, () -> x.strike(3));
        check.same("withdrawn, none cut", x.strike(1), 1);
        check.same("the one on it", x.ofAmendment(2, 0), Amendgrant.FALLEN);
        check.grant(x, 0, Amendgrant.WITHDRAWN, 400, 30);
        check.line(x, 0, 1500, 0, 830, 670, 0, 0);
        check.refused("it is fallen", Check.STATE, () -> x.strike(1));
        check.refused("it is fallen", Check.STATE, () -> x.strike(2));
        x.spend(0, 600);
        check.same("cut", x.strike(0), 2);
        check.line(x, 0, 1000, 600, 830, 170, 0, 0);
        x.amend(0, 1);
        check.refused("it is open", Check.STATE, () -> x.strike(3));
    }

    private static void promise8StrikeBalancesOnlyItsLine() {
        Amendgrant x = Check.withLine(100);
        x.line(0, 1000);
        Check.passed(x, 0, 500);
        x.grant(1, 0, 700, 0, 9);
        x.grant(0, 1, 200, 0, 9);
        x.grant(1, 2, 300, Amendgrant.NONE, 9);
        x.grant(0, 3, 100, Amendgrant.NONE, 9);
        x.grant(0, 4, 300, Amendgrant.NONE, 9);
        x.pay(1, 120);
        check.same("two withdrawn, two cut", x.strike(0), 4);
        check.grant(x, 0, Amendgrant.WITHDRAWN, 700, 0);
        check.grant(x, 1, Amendgrant.WITHDRAWN, 200, 120);
        check.grant(x, 2, Amendgrant.LIVE, 300, 0);
        check.grant(x, 3, Amendgrant.CUT, 0, 0);
        check.grant(x, 4, Amendgrant.CUT, 0, 0);
        check.line(x, 0, 120, 0, 120, 0, 0, 20);
        check.line(x, 1, 1000, 0, 300, 700, 0, 0);
        check.same("reserve", x.reserve(), -20);
    }

    private static void promise8StrikeUnderAnOpenOne() {
        Amendgrant x = Check.withLine(100);
        x.amend(0, 500);
        x.amendOn(0, 60);
        Check.pass(x, 1);
        check.same("brings", x.ofAmendment(0, 1), 560);
        check.line(x, 0, 100);
        check.same("none", x.strike(1), 0);
        check.same("brings", x.ofAmendment(0, 1), 500);
        Check.pass(x, 0);
        check.line(x, 0, 600);
    }

    private static void promise19OfAmendment() {
        Amendgrant x = Check.withLine(10);
        x.line(0, 10);
        x.amend(1, 5);
        x.amendOn(0, 1);
        x.amendOn(0, 2);
        x.amendOn(1, 3);
        Check.votes(x, 3, 2, 3);
        int[][] rows = {{0, 5, 1, 0, 0, -1, 1, 2}, {0, 1, 1, 0, 0, 0, 1, 1}, {0, 2, 1, 0, 0, 0, 1, 0},
            {0, 3, 1, 2, 3, 1, 1, 0}};
        for (int amendment = 0; amendment < rows.length; amendment++) {
            for (int what = 0; what < 8; what++) {
                check.same("ofAmendment(" + amendment + ", " + what + ")", x.ofAmendment(amendment, what),
                    rows[amendment][what]);
            }
        }
        Check.fell(x, 2);
        check.same("fallen ones count too", x.ofAmendment(0, 7), 2);
        check.refused("what -1", Check.ARGUMENT, () -> x.ofAmendment(0, -1));
        check.refused("what 8", Check.ARGUMENT, () -> x.ofAmendment(0, 8));
        check.refused("amendment -1", Check.INDEX, () -> x.ofAmendment(-1, 8));
        check.refused("amendment 4", Check.INDEX, () -> x.ofAmendment(4, 8));
    }

    private static void promise19WhatItBrings() {
        Amendgrant x = Check.withLine(1000);
        x.amend(0, 100);
        x.amendOn(0, 30);
        x.amendOn(1, 7);
        x.amendOn(0, -400);
        Check.pass(x, 2);
        check.same("one on it is passed", x.ofAmendment(1, 1), 37);
        check.same("that one is open", x.ofAmendment(0, 1), 100);
        Check.pass(x, 1);
        Check.pass(x, 3);
        check.same("all on it", x.ofAmendment(0, 1), -263);
        Check.pass(x, 0);
        check.line(x, 0, 737);
        x.strike(2);
        check.same("less", x.ofAmendment(1, 1), 30);
        check.same("less", x.ofAmendment(0, 1), -270);
        x.strike(0);
        check.same("its number", x.ofAmendment(0, 1), 100);
        check.same("one on it", x.ofAmendment(1, 1), 30);
        check.line(x, 0, 1000);
    }
}

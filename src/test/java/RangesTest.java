/** Both ends of each range that a promise names, and what lies next to them outside. */
public final class RangesTest {
    private static final int NONE = Amendgrant.NONE;
    private static final Check check = new Check();

    public static void main(String[] args) {
        promise2SourceIs0To3();
        promise2AmountIs0To100000();
        promise3SourceIs0To3();
        promise3AmountIs1To100000();
        promise4LineIsTheNumberOfALine();
        promise4MoreIsMinus50000To50000();
        promise4MoreIsNot0();
        promise5AmendmentIsTheNumberOfAnAmendment();
        promise5MoreIsMinus50000To50000();
        promise5MoreIsNot0();
        promise6MemberIs0To8();
        promise6AmendmentIsTheNumberOfAnAmendment();
        promise7AmendmentIsTheNumberOfAnAmendment();
        promise8AmendmentIsTheNumberOfAnAmendment();
        promise9LineIsTheNumberOfALine();
        promise9ReceiverIs0To7();
        promise9SumIs1To50000();
        promise9AmendmentIsTheNumberOfAnAmendmentOrNone();
        promise9MonthsAre0To60();
        promise10GrantIsTheNumberOfAGrant();
        promise10AmountIs1To50000();
        promise11GrantIsTheNumberOfAGrant();
        promise12LineIsTheNumberOfALine();
        promise12AmountIs1To50000();
        promise13GrantIsTheNumberOfAGrant();
        promise13AmountIs1To50000();
        promise14ReceiverIs0To7();
        promise14AmountIs1To50000();
        promise15PercentIs0To50();
        promise16MonthsAre1To24();
        promise17LineIsTheNumberOfALine();
        promise17WhatIs0To6();
        promise18LineIsTheNumberOfALine();
        promise19AmendmentIsTheNumberOfAnAmendment();
        promise19WhatIs0To7();
        promise20GrantIsTheNumberOfAGrant();
        promise20WhatIs0To7();
        promise21ReceiverIs0To7();
        promise23SourceIs0To3();
        promise23WhatIs0To2();
        check.end();
    }

    private static Amendgrant withTwoLines() {
        Amendgrant x = new Amendgrant();
        x.line(0, 100000);
        x.line(1, 100000);
        x.income(0, 100000);
        x.income(1, 100000);
        return x;
    }

    private static Amendgrant withTwoAmendments() {
        Amendgrant x = withTwoLines();
        x.amend(0, 10);
        x.amend(1, 20);
        return x;
    }

    /** Grants 0 and 1 of 50000, one for the first receiver, one for the last. */
    private static Amendgrant withTwoGrants() {
        Amendgrant x = withTwoLines();
        x.grant(0, 0, 50000, NONE, 60);
        x.grant(1, 7, 50000, NONE, 60);
        return x;
    }

    private static Amendgrant withTwoDebts() {
        Amendgrant x = withTwoGrants();
        for (int grant = 0; grant < 2; grant++) {
            x.pay(grant, 50000);
            x.audit(grant, 50000);
        }
        return x;
    }

    private static void promise2SourceIs0To3() {
        Amendgrant x = new Amendgrant();
        check.same("line of source 0", x.line(0, 5), 0);
        check.same("line of source 3", x.line(3, 5), 1);
        check.same("its source", x.ofLine(0, 6), 0);
        check.same("its source", x.ofLine(1, 6), 3);
        check.outside("line, source", Check.ARGUMENT, 0, 3, source -> x.line(source, 5));
        check.same("next number", x.line(0, 5), 2);
    }

    private static void promise2AmountIs0To100000() {
        Amendgrant x = new Amendgrant();
        check.same("line of 0", x.line(0, 0), 0);
        check.same("line of 100000", x.line(0, 100000), 1);
        check.line(x, 0, 0, 0, 0, 0, 0, 0);
        check.line(x, 1, 100000, 0, 0, 100000, 0, 0);
        check.outside("line, amount", Check.ARGUMENT, 0, 100000, amount -> x.line(0, amount));
        check.same("next number", x.line(0, 5), 2);
    }

    private static void promise3SourceIs0To3() {
        Amendgrant x = new Amendgrant();
        check.same("income of source 0", x.income(0, 5), 5);
        check.same("income of source 3", x.income(3, 6), 6);
        check.outside("income, source", Check.ARGUMENT, 0, 3, source -> x.income(source, 5));
        check.same("source 0", x.ofSource(0, 0), 5);
        check.same("source 3", x.ofSource(3, 0), 6);
    }

    private static void promise3AmountIs1To100000() {
        Amendgrant x = new Amendgrant();
        check.same("income of 1", x.income(0, 1), 1);
        check.same("income of 100000", x.income(0, 100000), 100001);
        check.outside("income, amount", Check.ARGUMENT, 1, 100000, amount -> x.income(0, amount));
        check.same("source 0", x.ofSource(0, 0), 100001);
    }

    private static void promise4LineIsTheNumberOfALine() {
        Amendgrant x = withTwoLines();
        check.same("amend line 0", x.amend(0, 5), 0);
        check.same("amend line 1", x.amend(1, 5), 1);
        check.same("its line", x.ofAmendment(0, 6), 0);
        check.same("its line", x.ofAmendment(1, 6), 1);
        check.outside("amend, line", Check.INDEX, 0, 1, line -> x.amend(line, 5));
        check.same("next number", x.amend(0, 5), 2);
    }

    private static void promise4MoreIsMinus50000To50000() {
        Amendgrant x = withTwoLines();
        check.same("amend by -50000", x.amend(0, -50000), 0);
        check.same("amend by 50000", x.amend(0, 50000), 1);
        check.same("brings", x.ofAmendment(0, 1), -50000);
        check.same("brings", x.ofAmendment(1, 1), 50000);
        check.outside("amend, more", Check.ARGUMENT, -50000, 50000, more -> x.amend(0, more));
        check.same("next number", x.amend(0, 5), 2);
    }

    private static void promise4MoreIsNot0() {
        Amendgrant x = withTwoLines();
        check.same("amend by -1", x.amend(0, -1), 0);
        check.same("amend by 1", x.amend(0, 1), 1);
        check.same("brings", x.ofAmendment(0, 1), -1);
        check.same("brings", x.ofAmendment(1, 1), 1);
        check.refused("amend by 0", Check.ARGUMENT, () -> x.amend(0, 0));
        check.same("next number", x.amend(0, 5), 2);
    }

    private static void promise5AmendmentIsTheNumberOfAnAmendment() {
        Amendgrant x = withTwoAmendments();
        check.outside("amendOn, amendment", Check.INDEX, 0, 1, amendment -> x.amendOn(amendment, 5));
        check.same("amendOn 0", x.amendOn(0, 5), 2);
        check.same("amendOn 1", x.amendOn(1, 5), 3);
        check.same("it is on", x.ofAmendment(2, 5), 0);
        check.same("it is on", x.ofAmendment(3, 5), 1);
    }

    private static void promise5MoreIsMinus50000To50000() {
        Amendgrant x = withTwoAmendments();
        check.same("amendOn by -50000", x.amendOn(0, -50000), 2);
        check.same("amendOn by 50000", x.amendOn(0, 50000), 3);
        check.same("brings", x.ofAmendment(2, 1), -50000);
        check.same("brings", x.ofAmendment(3, 1), 50000);
        check.outside("amendOn, more", Check.ARGUMENT, -50000, 50000, more -> x.amendOn(0, more));
        check.same("next number", x.amendOn(0, 5), 4);
    }

    private static void promise5MoreIsNot0() {
        Amendgrant x = withTwoAmendments();
        check.same("amendOn by -1", x.amendOn(0, -1), 2);
        check.same("amendOn by 1", x.amendOn(0, 1), 3);
        check.same("brings", x.ofAmendment(2, 1), -1);
        check.same("brings", x.ofAmendment(3, 1), 1);
        check.refused("amendOn by 0", Check.ARGUMENT, () -> x.amendOn(0, 0));
        check.same("next number", x.amendOn(0, 5), 4);
    }

    private static void promise6MemberIs0To8() {
        Amendgrant x = withTwoAmendments();
        check.same("member 0", x.vote(0, 0, true), 1);
        check.same("member 8", x.vote(8, 0, true), 2);
        check.outside("vote, member", Check.INDEX, 0, 8, member -> x.vote(member, 0, true));
        check.outside("vote against, member", Check.INDEX, 0, 8, member -> x.vote(member, 0, false));
        // Numbers that are 0 to 8 in their lowest bits alone.
        check.refused("member 32", Check.INDEX, () -> x.vote(32, 0, false));
        check.refused("member 256", Check.INDEX, () -> x.vote(256, 0, false));
        check.same("votes for", x.ofAmendment(0, 3), 2);
        check.same("votes against", x.ofAmendment(0, 4), 0);
        for (int member = 1; member < 8; member++) {
            check.same("each member has one vote", x.vote(member, 0, true), member + 2);
        }
    }

    private static void promise6AmendmentIsTheNumberOfAnAmendment() {
        Amendgrant x = withTwoAmendments();
        check.same("vote on 0", x.vote(3, 0, true), 1);
        check.same("vote on 1", x.vote(3, 1, true), 1);
        check.outside("vote, amendment", Check.INDEX, 0, 1, amendment -> x.vote(3, amendment, true));
        check.same("votes on 0", x.ofAmendment(0, 3), 1);
        check.same("votes on 1", x.ofAmendment(1, 3), 1);
    }

    private static void promise7AmendmentIsTheNumberOfAnAmendment() {
        Amendgrant x = withTwoAmendments();
        check.outside("decide", Check.INDEX, 0, 1, x::decide);
        check.same("decide 0", Check.pass(x, 0), Amendgrant.PASSED);
        check.same("decide 1", Check.fell(x, 1), Amendgrant.FALLEN);
    }

    private static void promise8AmendmentIsTheNumberOfAnAmendment() {
        Amendgrant x = withTwoAmendments();
        Check.pass(x, 0);
        Check.pass(x, 1);
        check.outside("strike", Check.INDEX, 0, 1, x::strike);
        check.same("strike 0", x.strike(0), 0);
        check.same("strike 1", x.strike(1), 0);
        check.same("it is fallen", x.ofAmendment(0, 0), Amendgrant.FALLEN);
        check.same("it is fallen", x.ofAmendment(1, 0), Amendgrant.FALLEN);
    }

    private static void promise9LineIsTheNumberOfALine() {
        Amendgrant x = withTwoLines();
        check.same("grant from line 0", x.grant(0, 0, 5, NONE, 0), 0);
        check.same("grant from line 1", x.grant(1, 0, 5, NONE, 0), 1);
        check.same("its line", x.ofGrant(0, 3), 0);
        check.same("its line", x.ofGrant(1, 3), 1);
        check.outside("grant, line", Check.INDEX, 0, 1, line -> x.grant(line, 0, 5, NONE, 0));
        check.same("next number", x.grant(0, 0, 5, NONE, 0), 2);
    }

    private static void promise9ReceiverIs0To7() {
        Amendgrant x = withTwoLines();
        check.same("grant to 0", x.grant(0, 0, 5, NONE, 0), 0);
        check.same("grant to 7", x.grant(0, 7, 5, NONE, 0), 1);
        check.same("its receiver", x.ofGrant(0, 4), 0);
        check.same("its receiver", x.ofGrant(1, 4), 7);
        check.outside("grant, receiver", Check.INDEX, 0, 7, receiver -> x.grant(0, receiver, 5, NONE, 0));
        check.same("next number", x.grant(0, 0, 5, NONE, 0), 2);
    }

    private static void promise9SumIs1To50000() {
        Amendgrant x = withTwoLines();
        check.same("grant of 1", x.grant(0, 0, 1, NONE, 0), 0);
        check.same("grant of 50000", x.grant(0, 0, 50000, NONE, 0), 1);
        check.grant(x, 0, Amendgrant.LIVE, 1, 0);
        check.grant(x, 1, Amendgrant.LIVE, 50000, 0);
        check.outside("grant, sum", Check.ARGUMENT, 1, 50000, sum -> x.grant(1, 0, sum, NONE, 0));
        check.same("next number", x.grant(0, 0, 5, NONE, 0), 2);
    }

    private static void promise9AmendmentIsTheNumberOfAnAmendmentOrNone() {
        Amendgrant x = withTwoAmendments();
        Check.pass(x, 0);
        Check.pass(x, 1);
        check.same("on none", x.grant(0, 0, 5, NONE, 0), 0);
        check.same("on 0", x.grant(0, 0, 5, 0, 0), 1);
        check.same("on 1", x.grant(0, 0, 5, 1, 0), 2);
        check.same("it hangs on", x.ofGrant(0, 5), NONE);
        check.same("it hangs on", x.ofGrant(1, 5), 0);
        check.same("it hangs on", x.ofGrant(2, 5), 1);
        check.outside("grant, amendment", Check.INDEX, NONE, 1, amendment -> x.grant(0, 0, 5, amendment, 0));
        check.same("next number", x.grant(0, 0, 5, NONE, 0), 3);
    }

    private static void promise9MonthsAre0To60() {
        Amendgrant x = withTwoLines();
        check.same("in 0 months", x.grant(0, 0, 5, NONE, 0), 0);
        check.same("in 60 months", x.grant(0, 0, 5, NONE, 60), 1);
        check.same("its last month", x.ofGrant(0, 6), 0);
        check.same("its last month", x.ofGrant(1, 6), 60);
        check.outside("grant, months", Check.ARGUMENT, 0, 60, months -> x.grant(0, 0, 5, NONE, months));
        check.same("next number", x.grant(0, 0, 5, NONE, 30), 2);
        x.month(24);
        x.month(24);
        x.month(12);
        check.same("in month 60", x.ofGrant(1, 0), Amendgrant.LIVE);
        x.month(1);
        check.same("in month 61", x.ofGrant(1, 0), Amendgrant.WITHDRAWN);
    }

    private static void promise10GrantIsTheNumberOfAGrant() {
        Amendgrant x = withTwoGrants();
        check.outside("pay, grant", Check.INDEX, 0, 1, grant -> x.pay(grant, 5));
        check.same("pay 0", x.pay(0, 5), 5);
        check.same("pay 1", x.pay(1, 6), 6);
        check.grant(x, 0, Amendgrant.LIVE, 50000, 5);
        check.grant(x, 1, Amendgrant.LIVE, 50000, 6);
    }

    private static void promise10AmountIs1To50000() {
        Amendgrant x = withTwoGrants();
        check.same("pay 1", x.pay(0, 1), 1);
        check.same("pay 50000", x.pay(1, 50000), 50000);
        check.outside("pay, amount", Check.ARGUMENT, 1, 50000, amount -> x.pay(0, amount));
        check.grant(x, 0, Amendgrant.LIVE, 50000, 1);
        check.grant(x, 1, Amendgrant.LIVE, 50000, 50000);
    }

    private static void promise11GrantIsTheNumberOfAGrant() {
        Amendgrant x = withTwoGrants();
        check.outside("report", Check.INDEX, 0, 1, x::report);
        check.same("report on 0", x.report(0), true);
        check.same("report on 1", x.report(1), true);
    }

    private static void promise12LineIsTheNumberOfALine() {
        Amendgrant x = withTwoLines();
        check.outside("spend, line", Check.INDEX, 0, 1, line -> x.spend(line, 5));
        check.same("spend on 0", x.spend(0, 5), 99995);
        check.same("spend on 1", x.spend(1, 6), 99994);
        check.same("spent on 0", x.ofLine(0, 1), 5);
        check.same("spent on 1", x.ofLine(1, 1), 6);
    }

    private static void promise12AmountIs1To50000() {
        Amendgrant x = withTwoLines();
        check.same("spend 1", x.spend(0, 1), 99999);
        check.same("spend 50000", x.spend(0, 50000), 49999);
        check.outside("spend, amount", Check.ARGUMENT, 1, 50000, amount -> x.spend(1, amount));
        check.line(x, 0, 100000, 50001, 50001, 49999, 0, 0);
        check.line(x, 1, 100000, 0, 0, 100000, 0, 0);
    }

    private static void promise13GrantIsTheNumberOfAGrant() {
        Amendgrant x = withTwoGrants();
        x.pay(0, 10);
        x.pay(1, 10);
        check.outside("audit, grant", Check.INDEX, 0, 1, grant -> x.audit(grant, 5));
        check.same("audit 0", x.audit(0, 4), 6);
        check.same("audit 1", x.audit(1, 3), 7);
        check.same("owes", x.owes(0), 4);
        check.same("owes", x.owes(7), 3);
    }

    private static void promise13AmountIs1To50000() {
        Amendgrant x = withTwoGrants();
        x.pay(0, 50000);
        x.pay(1, 50000);
        check.outside("audit, amount", Check.ARGUMENT, 1, 50000, amount -> x.audit(0, amount));
        check.same("still live", x.ofGrant(0, 0), Amendgrant.LIVE);
        check.same("claw back 1", x.audit(0, 1), 49999);
        check.same("claw back 50000", x.audit(1, 50000), 0);
        check.same("owes", x.owes(0), 1);
        check.same("owes", x.owes(7), 50000);
    }

    private static void promise14ReceiverIs0To7() {
        Amendgrant x = withTwoDebts();
        check.outside("repay, receiver", Check.INDEX, 0, 7, receiver -> x.repay(receiver, 5));
        check.same("0 repays", x.repay(0, 5), 49995);
        check.same("7 repays", x.repay(7, 6), 49994);
        check.same("reserve", x.reserve(), 11);
    }

    private static void promise14AmountIs1To50000() {
        Amendgrant x = withTwoDebts();
        check.outside("repay, amount", Check.ARGUMENT, 1, 50000, amount -> x.repay(0, amount));
        check.same("repay 1", x.repay(0, 1), 49999);
        check.same("repay 50000", x.repay(7, 50000), 0);
        check.same("reserve", x.reserve(), 50001);
    }

    private static void promise15PercentIs0To50() {
        Amendgrant x = new Amendgrant();
        check.same("5 before", x.target(0), 5);
        check.same("0 before", x.target(50), 0);
        check.outside("target", Check.ARGUMENT, 0, 50, x::target);
        check.same("50 before", x.target(1), 50);
    }

    private static void promise16MonthsAre1To24() {
        Amendgrant x = new Amendgrant();
        check.same("1 month", x.month(1), 1);
        check.same("24 months", x.month(24), 25);
        check.outside("month", Check.ARGUMENT, 1, 24, x::month);
        check.same("1 month", x.month(1), 26);
    }

    private static void promise17LineIsTheNumberOfALine() {
        Amendgrant x = withTwoLines();
        check.same("source of line 0", x.ofLine(0, 6), 0);
        check.same("source of line 1", x.ofLine(1, 6), 1);
        for (int i = 0; i < 7; i++) {
            int what = i;
            check.outside("ofLine, line", Check.INDEX, 0, 1, line -> x.ofLine(line, what));
        }
    }

    private static void promise17WhatIs0To6() {
        Amendgrant x = withTwoLines();
        check.same("ofLine 0", x.ofLine(1, 0), 100000);
        check.same("ofLine 6", x.ofLine(1, 6), 1);
        check.outside("ofLine, what", Check.ARGUMENT, 0, 6, what -> x.ofLine(1, what));
    }

    private static void promise18LineIsTheNumberOfALine() {
        Amendgrant x = new Amendgrant();
        x.line(0, 8);
        x.line(0, 9);
        check.same("line 0", x.standsAnew(0), 8);
        check.same("line 1", x.standsAnew(1), 9);
        check.outside("standsAnew", Check.INDEX, 0, 1, x::standsAnew);
    }

    private static void promise19AmendmentIsTheNumberOfAnAmendment() {
        Amendgrant x = withTwoAmendments();
        check.same("amendment 0", x.ofAmendment(0, 1), 10);
        check.same("amendment 1", x.ofAmendment(1, 1), 20);
        for (int i = 0; i < 8; i++) {
            int what = i;
            check.outside("ofAmendment, amendment", Check.INDEX, 0, 1, amendment -> x.ofAmendment(amendment, what));
        }
    }

    private static void promise19WhatIs0To7() {
        Amendgrant x = withTwoAmendments();
        Check.pass(x, 0);
        x.amendOn(1, 5);
        check.same("ofAmendment 0", x.ofAmendment(0, 0), Amendgrant.PASSED);
        check.same("ofAmendment 7", x.ofAmendment(1, 7), 1);
        check.outside("ofAmendment, what", Check.ARGUMENT, 0, 7, what -> x.ofAmendment(1, what));
    }

    private static void promise20GrantIsTheNumberOfAGrant() {
        Amendgrant x = withTwoGrants();
        check.same("grant 0", x.ofGrant(0, 4), 0);
        check.same("grant 1", x.ofGrant(1, 4), 7);
        for (int i = 0; i < 8; i++) {
            int what = i;
            check.outside("ofGrant, grant", Check.INDEX, 0, 1, grant -> x.ofGrant(grant, what));
        }
    }

    private static void promise20WhatIs0To7() {
        Amendgrant x = withTwoGrants();
        x.pay(0, 50000);
        x.audit(0, 1);
        x.report(1);
        check.same("ofGrant 0", x.ofGrant(0, 0), Amendgrant.CUT);
        check.same("ofGrant 7", x.ofGrant(1, 7), 1);
        check.outside("ofGrant, what", Check.ARGUMENT, 0, 7, what -> x.ofGrant(1, what));
    }

    private static void promise21ReceiverIs0To7() {
        Amendgrant x = withTwoDebts();
        check.same("owes", x.owes(0), 50000);
        check.same("owes", x.owes(7), 50000);
        check.same("owes", x.owes(1), 0);
        check.outside("owes", Check.INDEX, 0, 7, x::owes);
    }

    private static void promise23SourceIs0To3() {
        Amendgrant x = new Amendgrant();
        x.income(0, 5);
        x.income(3, 6);
        check.same("source 0", x.ofSource(0, 0), 5);
        check.same("source 3", x.ofSource(3, 0), 6);
        for (int i = 0; i < 3; i++) {
            int what = i;
            check.outside("ofSource, source", Check.ARGUMENT, 0, 3, source -> x.ofSource(source, what));
        }
    }

    private static void promise23WhatIs0To2() {
        Amendgrant x = withTwoLines();
        check.same("ofSource 0", x.ofSource(1, 0), 100000);
        check.same("ofSource 2", x.ofSource(1, 2), 100000);
        check.outside("ofSource, what", Check.ARGUMENT, 0, 2, what -> x.ofSource(1, what));
    }
}

/** 'Lines, amendments' and 'Grants', sentence by sentence, each at its boundary. */
public final class TermsTest {
    private static final int NONE = Amendgrant.NONE;
    private static final Check check = new Check();

    public static void main(String[] args) {
        promise2ALineHasAnAmountAtFirst();
        promise23ASourceHasAnIncomeAndWhatWasPaidFromIt();
        promise19AnAmendmentIsForALineInTheEnd();
        promise19WhatItBringsIsItsNumberIfNoneIsOnIt();
        promise19WhatItBringsHasPassedOnesOnItAlone();
        promise19WhatItBringsReachesThroughEveryDepth();
        promise19WhatItBringsHasNoFallenOnes();
        promise19WhatItBringsCanBeNothingOrTurnItsSign();
        promise6EachMemberHasOneVote();
        promise6EachMemberCanChangeItsVote();
        promise7ItIsDecidedOnlyIfNoneOnItIsOpen();
        promise7RoundOnePassesWithFive();
        promise7RoundOneFallsWithFive();
        promise7RoundOneOtherwiseBeginsRoundTwo();
        promise7RoundTwoBeginsWithoutVotes();
        promise7RoundTwoPassesWithMoreForThanAgainst();
        promise7RoundTwoFallsOtherwise();
        promise7ThereIsNoRoundThree();
        promise8APassedOneCanBeStruck();
        promise8IfOneFallsAllOnItFall();
        promise8IfOneFallsNoneBesideItFalls();
        promise8IfOneFallsThatOnWhichItIsStays();
        promise17WhatStandsHasPassedOnesAlone();
        promise17WhatStandsCanBeNothing();
        promise21AWithdrawnGrantIsOwedAsFarAsPaid();
        promise21AWithdrawnGrantOfWhichNothingWasPaid();
        promise21DebtsAddUp();
        promise20ACutGrantHasTheSumThatWasPaid();
        promise17BoundIsSpentAndGrants();
        promise8FallenOnesWithdrawGrantsThatHangOnThem();
        promise8FallenOnesLeaveCutAndWithdrawnGrants();
        promise8FallenOnesLeaveGrantsOnOthers();
        promise7FallenOnesThatWereOpenChangeNoLine();
        promise7NoneIsCutIfJustEnoughStands();
        promise7OneIsCutIfOneLessStands();
        promise7TheLatestIsCutFirst();
        promise7NoMoreAreCutThanNeeded();
        promise8OneOfWhichAllIsPaidIsCut();
        promise8CutAndWithdrawnOnesAreNotCutAgain();
        promise7GrantsOfOtherLinesAreNotCut();
        promise8WithdrawingGoesBeforeCutting();
        promise17TheReserveCoversWhatLacks();
        promise17TheReserveCoversNothingIfCuttingIsEnough();
        promise22TheReserveIsPerhapsBelow0();
        promise17WhatStandsCanBeBelow0AheadOfThat();
        promise7APassedOneInRoundTwoBalancesItsLine();
        promise7APassedOneOnAnotherBalancesNoLine();
        promise8AStruckOneOnAnotherBalancesTheLineInTheEnd();
        promise8ItIsLookedAtOneLineAlone();
        check.end();
    }

    private static Amendgrant withAmendment(int amount, int more) {
        Amendgrant x = Check.withLine(amount);
        x.amend(0, more);
        return x;
    }

    private static int decide(Amendgrant x, int amendment, int votesFor, int votesAgainst) {
        Check.votes(x, amendment, votesFor, votesAgainst);
        return x.decide(amendment);
    }

    /** What is told of an amendment: its state, its round, the votes for and against it. */
    private static void amendment(Amendgrant x, int amendment, int state, int round, int votesFor, int votesAgainst) {
        check.same("state", x.ofAmendment(amendment, 0), state);
        check.same("round", x.ofAmendment(amendment, 2), round);
        check.same("votes for", x.ofAmendment(amendment, 3), votesFor);
        check.same("votes against", x.ofAmendment(amendment, 4), votesAgainst);
    }

    private static void promise2ALineHasAnAmountAtFirst() {
        Amendgrant x = new Amendgrant();
        x.line(2, 0);
        x.line(2, 1);
        x.line(2, 100000);
        check.line(x, 0, 0, 0, 0, 0, 0, 0);
        check.line(x, 1, 1, 0, 0, 1, 0, 0);
        check.line(x, 2, 100000, 0, 0, 100000, 0, 0);
        check.same("stands of the source", x.ofSource(2, 2), 100001);
    }

    private static void promise23ASourceHasAnIncomeAndWhatWasPaidFromIt() {
        Amendgrant x = new Amendgrant();
        x.line(0, 100);
        x.line(0, 100);
        x.line(3, 100);
        x.income(0, 50);
        x.income(3, 50);
        x.spend(0, 20);
        x.grant(1, 0, 30, NONE, 9);
        check.same("a grant alone pays nothing", x.ofSource(0, 1), 20);
        x.pay(0, 30);
        check.same("income", x.ofSource(0, 0), 50);
        check.same("paid by both lines", x.ofSource(0, 1), 50);
        check.same("another source", x.ofSource(3, 1), 0);
        check.same("its lines", x.ofSource(0, 2), 200);
        check.same("its line", x.ofSource(3, 2), 100);
        check.same("no line", x.ofSource(1, 2), 0);
    }

    private static void promise19AnAmendmentIsForALineInTheEnd() {
        Amendgrant x = Check.withLine(10);
        x.line(0, 10);
        x.amend(1, 5);
        x.amendOn(0, 5);
        x.amendOn(1, 5);
        for (int number = 0; number < 3; number++) {
            check.same("line in the end", x.ofAmendment(number, 6), 1);
            check.same("is on", x.ofAmendment(number, 5), number - 1);
            check.same("on it", x.ofAmendment(number, 7), number == 2 ? 0 : 1);
        }
    }

    private static void promise19WhatItBringsIsItsNumberIfNoneIsOnIt() {
        Amendgrant x = withAmendment(100, -7);
        check.same("OPEN", x.ofAmendment(0, 1), -7);
        Check.pass(x, 0);
        check.same("PASSED", x.ofAmendment(0, 1), -7);
        x.strike(0);
        check.same("FALLEN", x.ofAmendment(0, 1), -7);
        check.line(x, 0, 100);
    }

    private static void promise19WhatItBringsHasPassedOnesOnItAlone() {
        Amendgrant x = withAmendment(100, 10);
        x.amendOn(0, 1);
        x.amendOn(0, 2);
        x.amendOn(0, 4);
        check.same("all are OPEN", x.ofAmendment(0, 1), 10);
        Check.pass(x, 2);
        check.same("one is PASSED", x.ofAmendment(0, 1), 12);
        Check.fell(x, 1);
        check.same("one is FALLEN", x.ofAmendment(0, 1), 12);
        Check.pass(x, 3);
        check.same("two are PASSED", x.ofAmendment(0, 1), 16);
        x.strike(2);
        check.same("one is struck", x.ofAmendment(0, 1), 14);
    }

    private static void promise19WhatItBringsReachesThroughEveryDepth() {
        Amendgrant x = withAmendment(100, 10);
        x.amendOn(0, 1);
        x.amendOn(1, 2);
        x.amendOn(2, 4);
        Check.pass(x, 3);
        check.same("it brings to that below", x.ofAmendment(2, 1), 6);
        check.same("not past an OPEN one", x.ofAmendment(1, 1), 1);
        check.same("not past an OPEN one", x.ofAmendment(0, 1), 10);
        Check.pass(x, 2);
        check.same("one OPEN one less", x.ofAmendment(1, 1), 7);
        Check.pass(x, 1);
        Check.pass(x, 0);
        check.same("all the way", x.ofAmendment(0, 1), 17);
        check.line(x, 0, 117);
        x.strike(3);
        check.line(x, 0, 113);
    }

    private static void promise19WhatItBringsHasNoFallenOnes() {
        Amendgrant x = withAmendment(100, 10);
        x.amendOn(0, 1);
        x.amendOn(1, 2);
        Check.pass(x, 2);
        Check.pass(x, 1);
        Check.pass(x, 0);
        x.strike(0);
        check.same("all on it are FALLEN", x.ofAmendment(0, 1), 10);
        check.same("all on it are FALLEN", x.ofAmendment(1, 1), 1);
        check.same("none is on it", x.ofAmendment(2, 1), 2);
    }

    private static void promise19WhatItBringsCanBeNothingOrTurnItsSign() {
        Amendgrant x = withAmendment(100, 10);
        x.amendOn(0, -10);
        x.amendOn(0, -1);
        Check.pass(x, 1);
        check.same("nothing", x.ofAmendment(0, 1), 0);
        Check.pass(x, 2);
        check.same("below 0", x.ofAmendment(0, 1), -1);
        Check.pass(x, 0);
        check.line(x, 0, 99, 0, 0, 99, 0, 0);
    }

    private static void promise6EachMemberHasOneVote() {
        Amendgrant x = withAmendment(100, 10);
        check.same("no vote for", x.ofAmendment(0, 3), 0);
        check.same("no vote against", x.ofAmendment(0, 4), 0);
        for (int member = 0; member < 9; member++) {
            check.same("a vote", x.vote(member, 0, true), member + 1);
            check.same("the same again", x.vote(member, 0, true), member + 1);
        }
        amendment(x, 0, Amendgrant.OPEN, 1, 9, 0);
        Amendgrant y = withAmendment(100, 10);
        for (int member = 0; member < 9; member++) {
            check.same("a vote against", y.vote(member, 0, false), 0);
            check.same("the same again", y.vote(member, 0, false), 0);
        }
        amendment(y, 0, Amendgrant.OPEN, 1, 0, 9);
    }

    private static void promise6EachMemberCanChangeItsVote() {
        for (int member = 0; member < 9; member++) {
            Amendgrant x = withAmendment(100, 10);
            check.same("for", x.vote(member, 0, true), 1);
            check.same("against", x.vote(member, 0, false), 0);
            amendment(x, 0, Amendgrant.OPEN, 1, 0, 1);
            check.same("for", x.vote(member, 0, true), 1);
            amendment(x, 0, Amendgrant.OPEN, 1, 1, 0);
        }
        Amendgrant x = withAmendment(100, 10);
        Check.votes(x, 0, 5, 4);
        x.vote(4, 0, false);
        check.same("five are against now", x.decide(0), Amendgrant.FALLEN);
    }

    private static void promise7ItIsDecidedOnlyIfNoneOnItIsOpen() {
        Amendgrant x = withAmendment(100, 10);
        x.amendOn(0, 1);
        x.amendOn(0, 2);
        Check.votes(x, 0, 9, 0);
        check.refused("two are OPEN", Check.STATE, () -> x.decide(0));
        Check.pass(x, 2);
        check.refused("one is OPEN", Check.STATE, () -> x.decide(0));
        check.same("round 2 of it begins", x.decide(1), Amendgrant.OPEN);
        check.refused("it is OPEN still", Check.STATE, () -> x.decide(0));
        check.same("it falls", x.decide(1), Amendgrant.FALLEN);
        check.same("none is OPEN", x.decide(0), Amendgrant.PASSED);
        Amendgrant y = withAmendment(100, 10);
        y.amend(0, 20);
        check.same("one beside it is OPEN", Check.pass(y, 0), Amendgrant.PASSED);
        Amendgrant z = withAmendment(100, 10);
        z.amendOn(0, 20);
        check.same("that on which it is is OPEN", Check.pass(z, 1), Amendgrant.PASSED);
        promise7OneOnItInItsRoundTwo();
    }

    private static void promise7OneOnItInItsRoundTwo() {
        Amendgrant x = withAmendment(100, 10);
        x.decide(0);
        check.same("one on it is made", x.amendOn(0, 1), 1);
        Check.votes(x, 0, 9, 0);
        check.refused("one is OPEN", Check.STATE, () -> x.decide(0));
        check.same("its votes stay", x.ofAmendment(0, 3), 9);
        Check.fell(x, 1);
        check.same("none is OPEN", x.decide(0), Amendgrant.PASSED);
    }

    private static void promise7RoundOnePassesWithFive() {
        for (int votesFor = 5; votesFor <= 9; votesFor++) {
            Amendgrant x = withAmendment(100, 10);
            check.same("decide", decide(x, 0, votesFor, 9 - votesFor), Amendgrant.PASSED);
            amendment(x, 0, Amendgrant.PASSED, 1, votesFor, 9 - votesFor);
            check.line(x, 0, 110);
        }
        Amendgrant x = withAmendment(100, 10);
        check.same("four", decide(x, 0, 4, 0), Amendgrant.OPEN);
        check.line(x, 0, 100);
    }

    private static void promise7RoundOneFallsWithFive() {
        for (int votesAgainst = 5; votesAgainst <= 9; votesAgainst++) {
            Amendgrant x = withAmendment(100, 10);
            check.same("decide", decide(x, 0, 9 - votesAgainst, votesAgainst), Amendgrant.FALLEN);
            amendment(x, 0, Amendgrant.FALLEN, 1, 9 - votesAgainst, votesAgainst);
            check.line(x, 0, 100);
        }
        Amendgrant x = withAmendment(100, 10);
        check.same("four", decide(x, 0, 0, 4), Amendgrant.OPEN);
        check.line(x, 0, 100);
    }

    private static void promise7RoundOneOtherwiseBeginsRoundTwo() {
        for (int votesFor = 0; votesFor <= 4; votesFor++) {
            for (int votesAgainst = 0; votesAgainst <= 4; votesAgainst++) {
                Amendgrant x = withAmendment(100, 10);
                check.same("decide", decide(x, 0, votesFor, votesAgainst), Amendgrant.OPEN);
                amendment(x, 0, Amendgrant.OPEN, 2, 0, 0);
            }
        }
    }

    private static void promise7RoundTwoBeginsWithoutVotes() {
        Amendgrant x = withAmendment(100, 10);
        decide(x, 0, 4, 4);
        check.same("one who was for it", x.vote(0, 0, true), 1);
        check.same("one who was against it", x.vote(8, 0, false), 1);
        amendment(x, 0, Amendgrant.OPEN, 2, 1, 1);
    }

    private static void promise7RoundTwoPassesWithMoreForThanAgainst() {
        for (int votesFor = 1; votesFor <= 9; votesFor++) {
            int votesAgainst = Math.min(votesFor - 1, 9 - votesFor);
            Amendgrant x = withAmendment(100, 10);
            x.decide(0);
            check.same("decide", decide(x, 0, votesFor, votesAgainst), Amendgrant.PASSED);
            amendment(x, 0, Amendgrant.PASSED, 2, votesFor, votesAgainst);
            check.line(x, 0, 110);
        }
    }

    private static void promise7RoundTwoFallsOtherwise() {
        int[][] rows = {{0, 0}, {1, 1}, {2, 2}, {3, 3}, {4, 4}, {0, 1}, {1, 2}, {2, 3}, {3, 4}, {4, 5}, {0, 9}};
        for (int[] row : rows) {
            Amendgrant x = withAmendment(100, 10);
            x.decide(0);
            check.same("decide", decide(x, 0, row[0], row[1]), Amendgrant.FALLEN);
            amendment(x, 0, Amendgrant.FALLEN, 2, row[0], row[1]);
            check.line(x, 0, 100);
        }
    }

    private static void promise7ThereIsNoRoundThree() {
        Amendgrant x = withAmendment(100, 10);
        check.same("round 1", x.decide(0), Amendgrant.OPEN);
        check.same("round 2", x.decide(0), Amendgrant.FALLEN);
        check.refused("no more", Check.STATE, () -> x.decide(0));
        amendment(x, 0, Amendgrant.FALLEN, 2, 0, 0);
    }

    private static void promise8APassedOneCanBeStruck() {
        Amendgrant x = withAmendment(100, 10);
        check.refused("it is OPEN", Check.STATE, () -> x.strike(0));
        decide(x, 0, 6, 2);
        check.line(x, 0, 110);
        check.same("no grant changes", x.strike(0), 0);
        amendment(x, 0, Amendgrant.FALLEN, 1, 6, 2);
        check.line(x, 0, 100);
        check.refused("it is FALLEN", Check.STATE, () -> x.strike(0));
    }

    private static void promise8IfOneFallsAllOnItFall() {
        Amendgrant x = withAmendment(100, 10);
        x.amendOn(0, 1);
        x.amendOn(1, 2);
        x.amendOn(2, 4);
        x.amendOn(0, 8);
        for (int number = 4; number >= 0; number--) {
            Check.pass(x, number);
        }
        check.line(x, 0, 125);
        x.strike(1);
        check.same("struck", x.ofAmendment(1, 0), Amendgrant.FALLEN);
        check.same("on it", x.ofAmendment(2, 0), Amendgrant.FALLEN);
        check.same("on that", x.ofAmendment(3, 0), Amendgrant.FALLEN);
        check.line(x, 0, 118);
        x.strike(0);
        check.same("beside it", x.ofAmendment(4, 0), Amendgrant.FALLEN);
        check.line(x, 0, 100);
    }

    private static void promise8IfOneFallsNoneBesideItFalls() {
        Amendgrant x = withAmendment(100, 10);
        x.amend(0, 20);
        x.amendOn(0, 1);
        x.amendOn(1, 2);
        for (int number = 3; number >= 0; number--) {
            Check.pass(x, number);
        }
        x.strike(0);
        check.same("on it", x.ofAmendment(2, 0), Amendgrant.FALLEN);
        check.same("beside it", x.ofAmendment(1, 0), Amendgrant.PASSED);
        check.same("on that beside it", x.ofAmendment(3, 0), Amendgrant.PASSED);
        check.line(x, 0, 122);
    }

    private static void promise8IfOneFallsThatOnWhichItIsStays() {
        Amendgrant x = withAmendment(100, 10);
        x.amendOn(0, 1);
        Check.pass(x, 1);
        x.strike(1);
        check.same("it is OPEN", x.ofAmendment(0, 0), Amendgrant.OPEN);
        check.same("it can be decided", Check.pass(x, 0), Amendgrant.PASSED);
        check.line(x, 0, 110);
        Amendgrant y = withAmendment(100, 10);
        y.amendOn(0, 1);
        Check.pass(y, 1);
        Check.pass(y, 0);
        y.strike(1);
        check.same("it is PASSED", y.ofAmendment(0, 0), Amendgrant.PASSED);
        check.line(y, 0, 110);
    }

    private static void promise17WhatStandsHasPassedOnesAlone() {
        Amendgrant x = withAmendment(100, 1);
        x.amend(0, 2);
        x.amend(0, 4);
        x.amend(0, -8);
        Check.pass(x, 0);
        check.line(x, 0, 101);
        Check.fell(x, 1);
        check.line(x, 0, 101);
        x.decide(2);
        check.line(x, 0, 101);
        Check.pass(x, 3);
        check.line(x, 0, 93);
        check.same("of its source", x.ofSource(0, 2), 93);
    }

    private static void promise17WhatStandsCanBeNothing() {
        Amendgrant x = withAmendment(100, -100);
        Check.pass(x, 0);
        check.line(x, 0, 0, 0, 0, 0, 0, 0);
        check.same("reserve", x.reserve(), 0);
        check.refused("nothing is free", Check.STATE, () -> x.grant(0, 0, 1, NONE, 0));
        check.refused("nothing is free", Check.STATE, () -> x.spend(0, 1));
    }

    private static void promise21AWithdrawnGrantIsOwedAsFarAsPaid() {
        Amendgrant x = withAmendment(100, 50);
        Check.pass(x, 0);
        x.grant(0, 3, 60, 0, 9);
        x.pay(0, 1);
        x.strike(0);
        check.grant(x, 0, Amendgrant.WITHDRAWN, 60, 1);
        check.same("owes", x.owes(3), 1);
        check.line(x, 0, 100, 0, 1, 99, 0, 0);
    }

    private static void promise21AWithdrawnGrantOfWhichNothingWasPaid() {
        Amendgrant x = withAmendment(100, 50);
        Check.pass(x, 0);
        x.grant(0, 3, 60, 0, 9);
        check.same("strike", x.strike(0), 1);
        check.grant(x, 0, Amendgrant.WITHDRAWN, 60, 0);
        check.same("owes", x.owes(3), 0);
        check.line(x, 0, 100, 0, 0, 100, 0, 0);
    }

    private static void promise21DebtsAddUp() {
        Amendgrant x = withAmendment(100, 50);
        Check.pass(x, 0);
        x.grant(0, 3, 30, NONE, 9);
        x.grant(0, 3, 30, 0, 9);
        x.grant(0, 3, 30, 0, 9);
        x.grant(0, 4, 30, 0, 9);
        for (int grant = 0; grant < 4; grant++) {
            x.pay(grant, 1 << grant);
        }
        x.audit(0, 1);
        check.same("for the audit", x.owes(3), 1);
        x.strike(0);
        check.same("for the audit, and two WITHDRAWN ones", x.owes(3), 7);
        check.same("another for its own", x.owes(4), 8);
    }

    private static void promise20ACutGrantHasTheSumThatWasPaid() {
        for (int paid = 0; paid <= 60; paid += 20) {
            Amendgrant x = withAmendment(100, -50);
            x.grant(0, 3, 60, NONE, 9);
            if (paid > 0) {
                x.pay(0, paid);
            }
            Check.pass(x, 0);
            check.grant(x, 0, Amendgrant.CUT, paid, paid);
            check.same("owes", x.owes(3), 0);
            check.line(x, 0, Math.max(50, paid), 0, paid, Math.max(50, paid) - paid, 0, Math.max(0, paid - 50));
        }
    }

    private static void promise17BoundIsSpentAndGrants() {
        Amendgrant x = Check.withLine(1000);
        x.line(0, 1000);
        x.target(0);
        x.spend(0, 1);
        x.spend(0, 2);
        x.grant(0, 0, 20, NONE, 9);
        x.grant(0, 0, 40, NONE, 9);
        x.grant(0, 0, 80, NONE, 0);
        x.grant(1, 0, 600, NONE, 9);
        check.line(x, 0, 1000, 3, 143, 857, 0, 0);
        x.pay(0, 5);
        check.line(x, 0, 1000, 3, 143, 857, 0, 0);
        x.pay(1, 7);
        x.audit(1, 3);
        check.line(x, 0, 1000, 6, 110, 890, 0, 0);
        x.pay(2, 9);
        x.month(1);
        check.line(x, 0, 1000, 6, 39, 961, 0, 0);
        check.line(x, 1, 1000, 0, 600, 400, 0, 0);
    }

    private static void promise8FallenOnesWithdrawGrantsThatHangOnThem() {
        Amendgrant x = withAmendment(1000, 10);
        x.amendOn(0, 1);
        x.amendOn(1, 1);
        for (int number = 2; number >= 0; number--) {
            Check.pass(x, number);
            x.grant(0, number, 100, number, 9);
        }
        check.same("all three hang on fallen ones", x.strike(0), 3);
        for (int grant = 0; grant < 3; grant++) {
            check.grant(x, grant, Amendgrant.WITHDRAWN, 100, 0);
        }
    }

    private static void promise8FallenOnesLeaveCutAndWithdrawnGrants() {
        Amendgrant x = withAmendment(1000, 10);
        Check.pass(x, 0);
        x.target(0);
        x.grant(0, 1, 100, 0, 9);
        x.grant(0, 2, 100, 0, 0);
        x.pay(0, 50);
        x.pay(1, 50);
        x.audit(0, 20);
        x.month(1);
        check.same("none is LIVE", x.strike(0), 0);
        check.grant(x, 0, Amendgrant.CUT, 30, 30);
        check.grant(x, 1, Amendgrant.WITHDRAWN, 100, 50);
        check.same("owes for the audit alone", x.owes(1), 20);
        check.same("owes once", x.owes(2), 50);
        check.line(x, 0, 1000, 20, 100, 900, 0, 0);
    }

    private static void promise8FallenOnesLeaveGrantsOnOthers() {
        Amendgrant x = withAmendment(1000, 10);
        x.amendOn(0, 1);
        x.amend(0, 5);
        Check.pass(x, 1);
        Check.pass(x, 0);
        Check.pass(x, 2);
        x.grant(0, 1, 100, 0, 9);
        x.grant(0, 1, 100, 1, 9);
        x.grant(0, 1, 100, 2, 9);
        x.grant(0, 1, 100, NONE, 9);
        check.same("one hangs on it", x.strike(1), 1);
        check.grant(x, 0, Amendgrant.LIVE, 100, 0);
        check.grant(x, 1, Amendgrant.WITHDRAWN, 100, 0);
        check.grant(x, 2, Amendgrant.LIVE, 100, 0);
        check.grant(x, 3, Amendgrant.LIVE, 100, 0);
    }

    private static void promise7FallenOnesThatWereOpenChangeNoLine() {
        Amendgrant x = withAmendment(100, 50);
        x.grant(0, 1, 100, NONE, 9);
        x.pay(0, 100);
        Check.fell(x, 0);
        check.grant(x, 0, Amendgrant.LIVE, 100, 100);
        check.line(x, 0, 100, 0, 100, 0, 0, 0);
        Amendgrant y = withAmendment(100, 50);
        y.amendOn(0, 10);
        Check.pass(y, 1);
        y.grant(0, 1, 60, 1, 9);
        y.grant(0, 1, 40, NONE, 9);
        check.same("with a PASSED one on it", Check.fell(y, 0), Amendgrant.FALLEN);
        check.grant(y, 0, Amendgrant.WITHDRAWN, 60, 0);
        check.grant(y, 1, Amendgrant.LIVE, 40, 0);
        check.line(y, 0, 100, 0, 40, 60, 0, 0);
    }

    private static void promise7NoneIsCutIfJustEnoughStands() {
        Amendgrant x = withAmendment(100, -40);
        x.grant(0, 1, 60, NONE, 9);
        Check.pass(x, 0);
        check.grant(x, 0, Amendgrant.LIVE, 60, 0);
        check.line(x, 0, 60, 0, 60, 0, 0, 0);
    }

    private static void promise7OneIsCutIfOneLessStands() {
        Amendgrant x = withAmendment(100, -41);
        x.grant(0, 1, 60, NONE, 9);
        Check.pass(x, 0);
        check.grant(x, 0, Amendgrant.CUT, 0, 0);
        check.line(x, 0, 59, 0, 0, 59, 0, 0);
    }

    private static void promise7TheLatestIsCutFirst() {
        Amendgrant x = withAmendment(100, -1);
        x.grant(0, 1, 50, NONE, 60);
        x.grant(0, 1, 30, NONE, 0);
        x.grant(0, 1, 20, NONE, 30);
        Check.pass(x, 0);
        check.grant(x, 0, Amendgrant.LIVE, 50, 0);
        check.grant(x, 1, Amendgrant.LIVE, 30, 0);
        check.grant(x, 2, Amendgrant.CUT, 0, 0);
    }

    private static void promise7NoMoreAreCutThanNeeded() {
        for (int more = -19; more >= -51; more--) {
            Amendgrant x = withAmendment(100, more);
            x.grant(0, 1, 50, NONE, 9);
            x.grant(0, 1, 30, NONE, 9);
            x.grant(0, 1, 20, NONE, 9);
            Check.pass(x, 0);
            check.same("the latest", x.ofGrant(2, 0), Amendgrant.CUT);
            check.same("the next", x.ofGrant(1, 0), more < -20 ? Amendgrant.CUT : Amendgrant.LIVE);
            check.same("the first", x.ofGrant(0, 0), more < -50 ? Amendgrant.CUT : Amendgrant.LIVE);
        }
    }

    private static void promise8OneOfWhichAllIsPaidIsCut() {
        Amendgrant x = withAmendment(100, 10);
        Check.pass(x, 0);
        x.grant(0, 1, 60, NONE, 9);
        x.grant(0, 1, 50, NONE, 9);
        x.pay(1, 50);
        check.same("both are CUT", x.strike(0), 2);
        check.grant(x, 0, Amendgrant.CUT, 0, 0);
        check.grant(x, 1, Amendgrant.CUT, 50, 50);
        check.line(x, 0, 100, 0, 50, 50, 0, 0);
    }

    private static void promise8CutAndWithdrawnOnesAreNotCutAgain() {
        Amendgrant x = withAmendment(100, 10);
        Check.pass(x, 0);
        x.target(0);
        x.grant(0, 1, 60, NONE, 9);
        x.grant(0, 2, 30, NONE, 9);
        x.grant(0, 3, 20, NONE, 0);
        x.pay(1, 30);
        x.audit(1, 10);
        x.pay(2, 20);
        x.month(1);
        x.income(0, 100);
        check.line(x, 0, 110, 10, 110, 0, 0, 0);
        check.same("only the LIVE one", x.strike(0), 1);
        check.grant(x, 0, Amendgrant.CUT, 0, 0);
        check.grant(x, 1, Amendgrant.CUT, 20, 20);
        check.grant(x, 2, Amendgrant.WITHDRAWN, 20, 20);
        check.line(x, 0, 100, 10, 50, 50, 0, 0);
    }

    private static void promise7GrantsOfOtherLinesAreNotCut() {
        Amendgrant x = withAmendment(100, -60);
        x.line(0, 100);
        x.grant(0, 1, 50, NONE, 9);
        x.grant(1, 1, 100, NONE, 9);
        Check.pass(x, 0);
        check.grant(x, 0, Amendgrant.CUT, 0, 0);
        check.grant(x, 1, Amendgrant.LIVE, 100, 0);
        check.line(x, 1, 100, 0, 100, 0, 0, 0);
    }

    private static void promise8WithdrawingGoesBeforeCutting() {
        Amendgrant x = withAmendment(100, 50);
        Check.pass(x, 0);
        x.grant(0, 1, 50, 0, 9);
        x.grant(0, 1, 100, NONE, 9);
        check.same("the one that hangs on it alone", x.strike(0), 1);
        check.grant(x, 0, Amendgrant.WITHDRAWN, 50, 0);
        check.grant(x, 1, Amendgrant.LIVE, 100, 0);
        check.line(x, 0, 100, 0, 100, 0, 0, 0);
        Amendgrant y = withAmendment(100, 50);
        Check.pass(y, 0);
        y.grant(0, 1, 50, 0, 9);
        y.grant(0, 1, 100, NONE, 9);
        y.pay(0, 1);
        check.same("what was paid of it lacks", y.strike(0), 2);
        check.grant(y, 1, Amendgrant.CUT, 0, 0);
        check.line(y, 0, 100, 0, 1, 99, 0, 0);
    }

    private static void promise17TheReserveCoversWhatLacks() {
        Amendgrant x = withAmendment(100, -31);
        x.spend(0, 40);
        x.grant(0, 1, 60, NONE, 9);
        x.pay(0, 30);
        Check.pass(x, 0);
        check.grant(x, 0, Amendgrant.CUT, 30, 30);
        check.line(x, 0, 70, 40, 70, 0, 0, 1);
        check.same("reserve", x.reserve(), -1);
        check.same("of its source", x.ofSource(0, 2), 70);
        x.strike(0);
        check.line(x, 0, 101, 40, 70, 31, 0, 1);
        check.same("it gets nothing back", x.reserve(), -1);
    }

    private static void promise17TheReserveCoversNothingIfCuttingIsEnough() {
        Amendgrant x = withAmendment(100, -30);
        x.spend(0, 40);
        x.grant(0, 1, 60, NONE, 9);
        x.pay(0, 30);
        Check.pass(x, 0);
        check.grant(x, 0, Amendgrant.CUT, 30, 30);
        check.line(x, 0, 70, 40, 70, 0, 0, 0);
        check.same("reserve", x.reserve(), 0);
    }

    private static void promise22TheReserveIsPerhapsBelow0() {
        int[][] rows = {{-49, 1}, {-50, 0}, {-51, -1}};
        for (int[] row : rows) {
            Amendgrant x = Check.withLine(1000);
            x.month(1);
            check.same("reserve", x.reserve(), 50);
            x.spend(0, 950);
            x.amend(0, row[0]);
            Check.pass(x, 0);
            check.same("reserve", x.reserve(), row[1]);
            check.line(x, 0, 950, 950, 950, 0, 50, -row[0]);
        }
    }

    private static void promise17WhatStandsCanBeBelow0AheadOfThat() {
        Amendgrant x = withAmendment(100, -50000);
        Check.pass(x, 0);
        check.line(x, 0, 0, 0, 0, 0, 0, 49900);
        check.same("reserve", x.reserve(), -49900);
        Amendgrant y = withAmendment(100, -101);
        y.grant(0, 1, 60, NONE, 9);
        y.pay(0, 25);
        Check.pass(y, 0);
        check.line(y, 0, 25, 0, 25, 0, 0, 26);
        check.same("reserve", y.reserve(), -26);
    }

    private static void promise7APassedOneInRoundTwoBalancesItsLine() {
        Amendgrant x = withAmendment(100, -50);
        x.grant(0, 1, 60, NONE, 9);
        x.pay(0, 55);
        x.decide(0);
        check.grant(x, 0, Amendgrant.LIVE, 60, 55);
        check.same("decide", decide(x, 0, 1, 0), Amendgrant.PASSED);
        check.grant(x, 0, Amendgrant.CUT, 55, 55);
        check.line(x, 0, 55, 0, 55, 0, 0, 5);
    }

    private static void promise7APassedOneOnAnotherBalancesNoLine() {
        Amendgrant x = withAmendment(100, 10);
        x.amendOn(0, -90);
        x.grant(0, 1, 100, NONE, 9);
        check.same("decide", Check.pass(x, 1), Amendgrant.PASSED);
        check.grant(x, 0, Amendgrant.LIVE, 100, 0);
        check.line(x, 0, 100, 0, 100, 0, 0, 0);
        check.same("decide", Check.pass(x, 0), Amendgrant.PASSED);
        check.grant(x, 0, Amendgrant.CUT, 0, 0);
        check.line(x, 0, 20, 0, 0, 20, 0, 0);
    }

    private static void promise8AStruckOneOnAnotherBalancesTheLineInTheEnd() {
        Amendgrant x = withAmendment(100, 10);
        x.amendOn(0, 40);
        Check.pass(x, 1);
        Check.pass(x, 0);
        x.grant(0, 1, 70, NONE, 9);
        x.grant(0, 2, 80, NONE, 9);
        x.pay(1, 80);
        x.pay(0, 40);
        check.same("strike", x.strike(1), 2);
        check.grant(x, 0, Amendgrant.CUT, 40, 40);
        check.grant(x, 1, Amendgrant.CUT, 80, 80);
        check.line(x, 0, 120, 0, 120, 0, 0, 10);
        check.same("reserve", x.reserve(), -10);
    }

    private static void promise8ItIsLookedAtOneLineAlone() {
        Amendgrant x = withAmendment(100, 10);
        x.line(0, 100);
        Check.pass(x, 0);
        x.grant(1, 1, 60, 0, 9);
        x.grant(1, 1, 40, NONE, 9);
        x.pay(0, 60);
        x.pay(1, 40);
        check.same("strike", x.strike(0), 1);
        check.grant(x, 1, Amendgrant.LIVE, 40, 40);
        check.line(x, 0, 100, 0, 0, 100, 0, 0);
        check.line(x, 1, 100, 0, 100, 0, 0, 0);
    }
}

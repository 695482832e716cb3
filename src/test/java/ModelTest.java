/**
 * Long runs of calls, each compared with a plain model that reckons everything anew from what was
 * done. The runs come from a counter's own arithmetic, so that they are always the same.
 */
public final class ModelTest {
    private static final int RUNS = 20000;
    private static final int CHANGES = 160;
    // What an object answers behind these is free.
    private static final int CALLS = 512;
    private static final int VOTES_AT_ONCE = 9;
    private static final int QUESTIONS = 2;
    private static final Check check = new Check();
    private static final int[] outcomes = new int[4];

    public static void main(String[] args) {
        for (int run = 0; run < RUNS; run++) {
            play(run);
        }
        // Runs that never come to these would test nothing.
        check.same("some grants were cut", outcomes[0] > 0, true);
        check.same("some were withdrawn", outcomes[1] > 0, true);
        check.same("the reserve covered some", outcomes[2] > 0, true);
        check.same("the reserve took some", outcomes[3] > 0, true);
        check.end();
    }

    private static void play(int run) {
        Amendgrant x = new Amendgrant();
        Model model = new Model();
        Dice dice = new Dice(run);
        boolean same = true;
        int left = CALLS;
        for (int change = 0; same && change < CHANGES && left >= VOTES_AT_ONCE + QUESTIONS; change++) {
            int kind = change < 6 ? change % 2 : KINDS[dice.below(KINDS.length)];
            int[] a = arguments(kind, dice, model);
            String name = "run " + run + ", change " + change + ", kind " + kind + java.util.Arrays.toString(a);
            same = isSame(name, real(x, kind, a), model.call(kind, a));
            left -= kind == 15 ? VOTES_AT_ONCE : 1;
            for (int question = 0; same && question < QUESTIONS; question++, left--) {
                same = ask(name, x, model, dice);
            }
        }
        for (; same && left > 0; left--) {
            same = ask("run " + run + ", in the end", x, model, dice);
        }
        countOutcomes(model);
    }

    private static boolean isSame(String name, long got, long due) {
        check.same(name, got, due);
        return got == due;
    }

    /** Asks one thing of one line, amendment, grant, source or receiver, or the reserve. */
    private static boolean ask(String name, Amendgrant x, Model model, Dice dice) {
        int line = dice.below(model.lines), amendment = dice.below(model.amendments), grant = dice.below(model.grants);
        int receiver = dice.below(8), source = dice.below(4), what = dice.below(8);
        switch (dice.below(8)) {
            case 0: return isSame(name + ": reserve", x.reserve(), model.reserve);
            case 1: return isSame(name + ": owes " + receiver, x.owes(receiver), model.debt[receiver]);
            case 2: return what > 2 || isSame(name + ": ofSource " + source + " " + what,
                x.ofSource(source, what), model.ofSource(source, what));
            case 3: return model.lines == 0 || isSame(name + ": standsAnew " + line,
                x.standsAnew(line), model.stands(line));
            case 4: case 5: return model.lines == 0 || what > 6 || isSame(name + ": ofLine " + line + " " + what,
                x.ofLine(line, what), model.ofLine(line, what));
            case 6: return model.amendments == 0 || isSame(name + ": ofAmendment " + amendment + " " + what,
                x.ofAmendment(amendment, what), model.ofAmendment(amendment, what));
            default: return model.grants == 0 || isSame(name + ": ofGrant " + grant + " " + what,
                x.ofGrant(grant, what), model.grant[grant][what]);
        }
    }

    private static final int[] KINDS = {0, 1, 2, 3, 3, 4, 4, 4, 5, 5, 5, 5, 6, 7, 7, 7, 8, 8, 8, 9, 10, 11, 12, 13, 14,
        15, 15};

    private static int[] arguments(int kind, Dice dice, Model model) {
        switch (kind) {
            case 0: return new int[] {dice.near(0, 4), dice.one(8) ? dice.edge(100000) : dice.below(2000)};
            case 1: return new int[] {dice.near(0, 4), dice.one(8) ? dice.edge(100000) : dice.below(4000)};
            case 2: return new int[] {dice.near(0, model.lines), dice.more()};
            case 3: return new int[] {dice.near(0, model.amendments), dice.more()};
            case 4: return new int[] {dice.near(0, 9), dice.near(0, model.amendments), dice.below(3)};
            case 5: return new int[] {dice.near(0, model.amendments)};
            case 6: return new int[] {dice.near(0, model.amendments)};
            case 7: return new int[] {dice.near(0, model.lines), dice.near(0, 8), dice.amount(900),
                dice.near(-1, model.amendments), dice.one(20) ? dice.near(0, 61) : dice.below(9)};
            case 8: return new int[] {dice.near(0, model.grants), dice.amount(400)};
            case 9: return new int[] {dice.near(0, model.grants)};
            case 10: return new int[] {dice.near(0, model.lines), dice.amount(400)};
            case 11: return new int[] {dice.near(0, model.grants), dice.amount(200)};
            case 12: return new int[] {dice.near(0, 8), dice.amount(100)};
            case 13: return new int[] {dice.near(0, 51)};
            case 14: return new int[] {dice.one(10) ? dice.near(1, 25) : 1};
            default: return new int[] {dice.near(0, model.amendments), dice.one(2) ? 1 : 0};
        }
    }

    /** The answer; a thrown exception answers a number of its own. Kind 15 is nine votes at once. */
    private static long real(Amendgrant x, int kind, int[] a) {
        try {
            switch (kind) {
                case 0: return x.line(a[0], a[1]);
                case 1: return x.income(a[0], a[1]);
                case 2: return x.amend(a[0], a[1]);
                case 3: return x.amendOn(a[0], a[1]);
                case 4: return x.vote(a[0], a[1], a[2] > 0);
                case 5: return x.decide(a[0]);
                case 6: return x.strike(a[0]);
                case 7: return x.grant(a[0], a[1], a[2], a[3], a[4]);
                case 8: return x.pay(a[0], a[1]);
                case 9: return x.report(a[0]) ? 1 : 0;
                case 10: return x.spend(a[0], a[1]);
                case 11: return x.audit(a[0], a[1]);
                case 12: return x.repay(a[0], a[1]);
                case 13: return x.target(a[0]);
                case 14: return x.month(a[0]);
                default: return allVote(x, a);
            }
        } catch (IndexOutOfBoundsException e) {
            return Check.isThrownByTheClass(e) ? Model.INDEX : Long.MIN_VALUE;
        } catch (IllegalArgumentException e) {
            return Model.ARGUMENT;
        } catch (IllegalStateException e) {
            return Model.STATE;
        }
    }

    private static long allVote(Amendgrant x, int[] a) {
        long answer = 0;
        for (int member = 0; member < 9; member++) {
            answer = x.vote(member, a[0], a[1] == 1);
        }
        return answer;
    }

    private static void countOutcomes(Model model) {
        for (int i = 0; i < model.grants; i++) {
            outcomes[0] += model.grant[i][0] == Amendgrant.CUT ? 1 : 0;
            outcomes[1] += model.grant[i][0] == Amendgrant.WITHDRAWN ? 1 : 0;
        }
        for (int line = 0; line < model.lines; line++) {
            outcomes[2] += model.ofLine(line, 5) > 0 ? 1 : 0;
            outcomes[3] += model.ofLine(line, 4) > 0 ? 1 : 0;
        }
    }

    private static final class Dice {
        private long state;

        Dice(int seed) {
            state = seed * 7919L + 12345;
        }

        int below(int bound) {
            state = state * 6364136223846793005L + 1442695040888963407L;
            return (int) Long.remainderUnsigned(state >>> 24, Math.max(1, bound));
        }

        boolean one(int in) {
            return below(in) == 0;
        }

        /** Mostly from least to end - 1, now and then beyond. */
        int near(int least, int end) {
            if (one(24)) {
                return one(2) ? least - 1 : end;
            }
            return least + below(end - least);
        }

        int edge(int most) {
            int[] edges = {-1, 0, 1, most - 1, most, most + 1, Integer.MIN_VALUE, Integer.MAX_VALUE};
            return edges[below(edges.length)];
        }

        int amount(int usual) {
            return one(16) ? edge(50000) : 1 + below(usual);
        }

        int more() {
            if (one(16)) {
                return one(2) ? edge(50000) : -edge(50000);
            }
            return below(2001) - 1200;
        }
    }

    /** The budget in rows of numbers; stands, bound and brings are reckoned at each question. */
    private static final class Model {
        static final long INDEX = -1000000001L, ARGUMENT = -1000000002L, STATE = -1000000003L;

        int lines, amendments, grants, reserve, now;
        int percent = 5;
        final int[] income = new int[4], paid = new int[4], debt = new int[8];
        // source, amount, spent, taken, covered
        final int[][] line = new int[10][5];
        // more, on, line, state, round
        final int[][] amendment = new int[40][5];
        final int[][] votes = new int[40][9];
        // as ofGrant tells it
        final int[][] grant = new int[40][8];

        long call(int kind, int[] a) {
            switch (kind) {
                case 0: return makeLine(a[0], a[1]);
                case 1: return addIncome(a[0], a[1]);
                case 2: return makeAmendment(a[0], lines, a[0], -1, a[1]);
                case 3: return makeAmendment(a[0], amendments, 0, a[0], a[1]);
                case 4: return vote(a[0], a[1], a[2] > 0 ? 1 : -1);
                case 5: return decide(a[0]);
                case 6: return strike(a[0]);
                case 7: return makeGrant(a);
                case 8: return pay(a[0], a[1]);
                case 9: return report(a[0]);
                case 10: return spend(a[0], a[1]);
                case 11: return audit(a[0], a[1]);
                case 12: return repay(a[0], a[1]);
                case 13: return target(a[0]);
                case 14: return months(a[0]);
                default: return allVote(a[0], a[1] == 1 ? 1 : -1);
            }
        }

        private static boolean out(int value, int least, int most) {
            return value < least || value > most;
        }

        long makeLine(int source, int amount) {
            if (out(source, 0, 3) || out(amount, 0, 100000)) return ARGUMENT;
            if (lines == 10) return STATE;
            line[lines] = new int[] {source, amount, 0, 0, 0};
            return lines++;
        }

        long addIncome(int source, int amount) {
            if (out(source, 0, 3) || out(amount, 1, 100000)) return ARGUMENT;
            return income[source] += amount;
        }

        long makeAmendment(int number, int end, int forLine, int on, int more) {
            if (out(number, 0, end - 1)) return INDEX;
            if (more == 0 || out(more, -50000, 50000)) return ARGUMENT;
            if (amendments == 40 || on >= 0 && amendment[on][3] != 0) return STATE;
            amendment[amendments] = new int[] {more, on, on >= 0 ? amendment[on][2] : forLine, 0, 1};
            return amendments++;
        }

        int count(int which, int vote) {
            int count = 0;
            for (int one : votes[which]) count += one == vote ? 1 : 0;
            return count;
        }

        long vote(int member, int which, int vote) {
            if (out(member, 0, 8) || out(which, 0, amendments - 1)) return INDEX;
            if (amendment[which][3] != 0) return STATE;
            votes[which][member] = vote;
            return count(which, 1);
        }

        long allVote(int which, int vote) {
            long answer = 0;
            for (int member = 0; member < 9 && answer >= 0; member++) answer = vote(member, which, vote);
            return answer;
        }

        long decide(int which) {
            if (out(which, 0, amendments - 1)) return INDEX;
            if (amendment[which][3] != 0) return STATE;
            for (int i = 0; i < amendments; i++) {
                if (amendment[i][1] == which && amendment[i][3] == 0) return STATE;
            }
            int by = count(which, 1), against = count(which, -1);
            boolean first = amendment[which][4] == 1;
            if (first && by < 5 && against < 5) {
                amendment[which][4] = 2;
                votes[which] = new int[9];
                return 0;
            }
            if (first ? by >= 5 : by > against) {
                amendment[which][3] = 1;
                if (amendment[which][1] < 0) look(amendment[which][2]);
                return 1;
            }
            fall(which);
            return 2;
        }

        long strike(int which) {
            if (out(which, 0, amendments - 1)) return INDEX;
            if (amendment[which][3] != 1) return STATE;
            return fall(which);
        }

        int fall(int which) {
            boolean[] fell = new boolean[40];
            boolean some = fallFrom(which, fell);
            int changed = 0;
            for (int i = 0; i < grants; i++) {
                if (grant[i][0] == 0 && grant[i][5] >= 0 && fell[grant[i][5]]) {
                    withdraw(i);
                    changed++;
                }
            }
            return changed + (some ? look(amendment[which][2]) : 0);
        }

        boolean fallFrom(int which, boolean[] fell) {
            fell[which] = amendment[which][3] == 1;
            boolean some = fell[which];
            amendment[which][3] = 2;
            for (int i = 0; i < amendments; i++) {
                if (amendment[i][1] == which) some |= fallFrom(i, fell);
            }
            return some;
        }

        void withdraw(int which) {
            grant[which][0] = 2;
            debt[grant[which][4]] += grant[which][2];
        }

        int look(int which) {
            int cut = 0;
            for (int i = grants - 1; i >= 0; i--) {
                if (stands(which) < bound(which) && grant[i][3] == which && grant[i][0] == 0) {
                    grant[i][0] = 1;
                    grant[i][1] = grant[i][2];
                    cut++;
                }
            }
            int less = bound(which) - stands(which);
            if (less > 0) {
                line[which][4] += less;
                reserve -= less;
            }
            return cut;
        }

        int brings(int which) {
            int brings = amendment[which][0];
            for (int i = 0; i < amendments; i++) {
                if (amendment[i][1] == which && amendment[i][3] == 1) brings += brings(i);
            }
            return brings;
        }

        int stands(int which) {
            int stands = line[which][1] + line[which][4] - line[which][3];
            for (int i = 0; i < amendments; i++) {
                boolean counts = amendment[i][1] < 0 && amendment[i][2] == which && amendment[i][3] == 1;
                stands += counts ? brings(i) : 0;
            }
            return stands;
        }

        int bound(int which) {
            int bound = line[which][2];
            for (int i = 0; i < grants; i++) {
                if (grant[i][3] == which) bound += grant[i][0] == 2 ? grant[i][2] : grant[i][1];
            }
            return bound;
        }

        int free(int which) {
            return stands(which) - bound(which);
        }

        long makeGrant(int[] a) {
            if (out(a[0], 0, lines - 1) || out(a[1], 0, 7) || out(a[3], -1, amendments - 1)) return INDEX;
            if (out(a[2], 1, 50000) || out(a[4], 0, 60)) return ARGUMENT;
            if (grants == 40 || free(a[0]) < a[2] || a[3] >= 0 && amendment[a[3]][3] != 1) return STATE;
            grant[grants] = new int[] {0, a[2], 0, a[0], a[1], a[3], now + a[4], 0};
            return grants++;
        }

        long pay(int which, int amount) {
            if (out(which, 0, grants - 1)) return INDEX;
            if (out(amount, 1, 50000)) return ARGUMENT;
            int source = line[grant[which][3]][0];
            boolean tooMuch = grant[which][2] + amount > grant[which][1] || paid[source] + amount > income[source];
            if (grant[which][0] != 0 || tooMuch) return STATE;
            paid[source] += amount;
            return grant[which][2] += amount;
        }

        long report(int which) {
            if (out(which, 0, grants - 1)) return INDEX;
            if (grant[which][0] == 2) return STATE;
            int before = grant[which][7];
            grant[which][7] = 1;
            return 1 - before;
        }

        long spend(int which, int amount) {
            if (out(which, 0, lines - 1)) return INDEX;
            if (out(amount, 1, 50000)) return ARGUMENT;
            int source = line[which][0];
            if (free(which) < amount || paid[source] + amount > income[source]) return STATE;
            paid[source] += amount;
            line[which][2] += amount;
            return free(which);
        }

        long audit(int which, int amount) {
            if (out(which, 0, grants - 1)) return INDEX;
            if (out(amount, 1, 50000)) return ARGUMENT;
            if (grant[which][0] == 2 || grant[which][2] < amount) return STATE;
            int left = grant[which][2] - amount;
            grant[which][0] = 1;
            grant[which][1] = left;
            grant[which][2] = left;
            debt[grant[which][4]] += amount;
            line[grant[which][3]][2] += amount;
            return left;
        }

        long repay(int receiver, int amount) {
            if (out(receiver, 0, 7)) return INDEX;
            if (out(amount, 1, 50000)) return ARGUMENT;
            if (debt[receiver] < amount) return STATE;
            reserve += amount;
            return debt[receiver] -= amount;
        }

        long target(int percentNow) {
            if (out(percentNow, 0, 50)) return ARGUMENT;
            int before = percent;
            percent = percentNow;
            return before;
        }

        long months(int months) {
            if (out(months, 1, 24)) return ARGUMENT;
            for (int i = 0; i < months; i++) month();
            return now;
        }

        void month() {
            now++;
            for (int i = 0; i < grants; i++) {
                if (grant[i][0] == 0 && grant[i][7] == 0 && grant[i][6] < now) withdraw(i);
            }
            long all = 0;
            for (int i = 0; i < lines; i++) all += stands(i);
            long goal = Math.max(0, Math.floorDiv(all * percent, 100L));
            for (int i = 0; i < lines; i++) {
                if (reserve >= goal) break;
                long takes = Math.min(Math.max(0, free(i)) / 10, goal - reserve);
                line[i][3] += takes;
                reserve += takes;
            }
        }

        int ofLine(int which, int what) {
            int[] row = line[which];
            return new int[] {stands(which), row[2], bound(which), free(which), row[3], row[4], row[0]}[what];
        }

        int ofSource(int source, int what) {
            int stands = 0;
            for (int i = 0; i < lines; i++) stands += line[i][0] == source ? stands(i) : 0;
            return new int[] {income[source], paid[source], stands}[what];
        }

        int ofAmendment(int which, int what) {
            int[] row = amendment[which];
            int on = 0;
            for (int i = 0; i < amendments; i++) on += amendment[i][1] == which ? 1 : 0;
            return new int[] {row[3], brings(which), row[4], count(which, 1), count(which, -1), row[1], row[2], on}[what];
        }
    }
}

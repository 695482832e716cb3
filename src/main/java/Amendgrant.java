import java.util.ArrayList;

/**
 * The budget of a town: lines with sources, amendments and amendments on these, votes by two
 * rounds, grants that hang on amendments, payments, audits, debts, and a reserve.
 */
public final class Amendgrant {
    public static final int NONE = -1;
    public static final int OPEN = 0, PASSED = 1, FALLEN = 2;
    public static final int LIVE = 0, CUT = 1, WITHDRAWN = 2;

    private static final int SOURCES = 4;
    private static final int MEMBERS = 9;
    private static final int RECEIVERS = 8;
    private static final int MOST_LINES = 10;
    private static final int MOST_AMENDMENTS = 40;
    private static final int MOST_GRANTS = 40;
    private static final int VOTES_TO_END_ROUND_ONE = 5;
    private static final int MOST_BY_LINE_OR_INCOME = 100000;
    private static final int MOST_BY_CALL = 50000;
    private static final int MOST_PERCENT = 50;
    private static final int MOST_MONTHS_TO_REPORT = 60;
    private static final int MOST_MONTHS_TO_PASS = 24;

    private final ArrayList<Source> sources = new ArrayList<Source>();
    private final ArrayList<Receiver> receivers = new ArrayList<Receiver>();
    private final ArrayList<Line> lines = new ArrayList<Line>();
    private final ArrayList<Amendment> amendments = new ArrayList<Amendment>();
    private final ArrayList<Grant> grants = new ArrayList<Grant>();
    private int inReserve = 0;
    private int percentOfTarget = 5;
    private int thisMonth = 0;

    private static final class Source {
        final int number;
        int income = 0;
        int paid = 0;

        Source(int number) {
            this.number = number;
        }

        int unpaid() {
            return income - paid;
        }
    }

    private static final class Receiver {
        final int number;
        int debt = 0;

        Receiver(int number) {
            this.number = number;
        }
    }

    private static final class Line {
        final int number;
        final Source source;
        final int atFirst;
        int brought = 0;
        int spent = 0;
        int taken = 0;
        int covered = 0;

        Line(int number, Source source, int atFirst) {
            this.number = number;
            this.source = source;
            this.atFirst = atFirst;
        }

        int stands() {
            return standsWith(brought);
        }

        int standsWith(int bringing) {
            return atFirst + bringing + covered - taken;
        }
    }

    private static final class Amendment {
        final int number;
        final Amendment above;
        final Line line;
        final int more;
        int brings;
        int state = OPEN;
        int round = 1;
        boolean struck = false;
        // One bit a member, so that a changed vote can't be counted twice.
        private int membersFor = 0;
        private int membersAgainst = 0;

        /** An amendment for a line has no amendment above it: null. */
        Amendment(int number, Amendment above, Line line, int more) {
            this.number = number;
            this.above = above;
            this.line = line;
            this.more = more;
            this.brings = more;
        }

        void takeVote(int member, boolean isFor) {
            int bit = 1 << member;
            membersFor = isFor ? membersFor | bit : membersFor & ~bit;
            membersAgainst = isFor ? membersAgainst & ~bit : membersAgainst | bit;
        }

        int votesFor() {
            return Integer.bitCount(membersFor);
        }

        int votesAgainst() {
            return Integer.bitCount(membersAgainst);
        }

        boolean isWon() {
            return round == 1 ? votesFor() >= VOTES_TO_END_ROUND_ONE : votesFor() > votesAgainst();
        }

        boolean isLost() {
            return round == 1 ? votesAgainst() >= VOTES_TO_END_ROUND_ONE : !isWon();
        }

        void beginRoundTwo() {
            round = 2;
            membersFor = 0;
            membersAgainst = 0;
        }
    }

    private static final class Grant {
        final Line line;
        final Receiver receiver;
        final Amendment hangsOn;
        final int lastMonth;
        int sum;
        int paid = 0;
        int state = LIVE;
        boolean reported = false;

        /** A grant that hangs on no amendment has null for it. */
        Grant(Line line, Receiver receiver, int sum, Amendment hangsOn, int lastMonth) {
            this.line = line;
            this.receiver = receiver;
            this.sum = sum;
            this.hangsOn = hangsOn;
            this.lastMonth = lastMonth;
        }

        int binds() {
            return state == WITHDRAWN ? paid : sum;
        }

        boolean isOverdue(int month) {
            return state == LIVE && !reported && lastMonth < month;
        }

        boolean hangsOnFallen() {
            return hangsOn != null && hangsOn.state == FALLEN;
        }

        void withdraw() {
            state = WITHDRAWN;
            receiver.debt += paid;
        }

        void cut() {
            state = CUT;
            sum = paid;
        }

        void clawBack(int amount) {
            paid -= amount;
            cut();
            receiver.debt += amount;
            line.spent += amount;
        }
    }

    public Amendgrant() {
        for (int number = 0; number < SOURCES; number++) {
            sources.add(new Source(number));
        }
        for (int number = 0; number < RECEIVERS; number++) {
            receivers.add(new Receiver(number));
        }
    }

    // ---- lines and sources

    public int line(int source, int amount) throws IllegalArgumentException, IllegalStateException {
        Source from = sourceAt(source);
        needRange(amount, 0, MOST_BY_LINE_OR_INCOME);
        int number = lines.size();
        if (number >= MOST_LINES) {
            throw new IllegalStateException("no more lines can be made");
        }
        lines.add(new Line(number, from, amount));
        return number;
    }

    public int income(int source, int amount) throws IllegalArgumentException {
        Source into = sourceAt(source);
        needRange(amount, 1, MOST_BY_LINE_OR_INCOME);
        into.income += amount;
        return into.income;
    }

    // ---- amendments

    public int amend(int line, int more)
            throws IndexOutOfBoundsException, IllegalArgumentException, IllegalStateException {
        Line amended = lineAt(line);
        needMore(more);
        needRoomForAmendment();
        return addAmendment(null, amended, more);
    }

    public int amendOn(int amendment, int more)
            throws IndexOutOfBoundsException, IllegalArgumentException, IllegalStateException {
        Amendment above = amendmentAt(amendment);
        needMore(more);
        needOpen(above);
        needRoomForAmendment();
        return addAmendment(above, above.line, more);
    }

    public int vote(int member, int amendment, boolean isFor)
            throws IndexOutOfBoundsException, IllegalStateException {
        if (member < 0 || member >= MEMBERS) {
            throw new IndexOutOfBoundsException("no such member");
        }
        Amendment voted = amendmentAt(amendment);
        needOpen(voted);
        voted.takeVote(member, isFor);
        return voted.votesFor();
    }

    public int decide(int amendment) throws IndexOutOfBoundsException, IllegalStateException {
        Amendment decided = amendmentAt(amendment);
        needOpen(decided);
        if (isOneOpenOn(decided)) {
            throw new IllegalStateException("an amendment on it is open");
        }
        if (decided.isWon()) {
            makePassed(decided);
        } else if (decided.isLost()) {
            makeFallen(decided);
        } else {
            decided.beginRoundTwo();
        }
        return decided.state;
    }

    public int strike(int amendment) throws IndexOutOfBoundsException, IllegalStateException {
        Amendment passed = amendmentAt(amendment);
        needPassed(passed);
        passed.struck = true;
        return makeFallen(passed);
    }

    // ---- grants and spending

    public int grant(int line, int receiver, int sum, int amendment, int months)
            throws IndexOutOfBoundsException, IllegalArgumentException, IllegalStateException {
        Line from = lineAt(line);
        Receiver to = receiverAt(receiver);
        Amendment hangsOn = amendment == NONE ? null : amendmentAt(amendment);
        needRange(sum, 1, MOST_BY_CALL);
        needRange(months, 0, MOST_MONTHS_TO_REPORT);
        int number = grants.size();
        if (number >= MOST_GRANTS) {
            throw new IllegalStateException("no more grants can be made");
        }
        needFree(from, sum);
        if (hangsOn != null) {
            needPassed(hangsOn);
        }
        grants.add(new Grant(from, to, sum, hangsOn, thisMonth + months));
        return number;
    }

    public int pay(int grant, int amount)
            throws IndexOutOfBoundsException, IllegalArgumentException, IllegalStateException {
        Grant payee = grantAt(grant);
        needRange(amount, 1, MOST_BY_CALL);
        if (payee.state != LIVE) {
            throw new IllegalStateException("the grant is not live");
        }
        if (amount > payee.sum - payee.paid) {
            throw new IllegalStateException("more than its sum would be paid");
        }
        payFrom(payee.line.source, amount);
        payee.paid += amount;
        return payee.paid;
    }

    public boolean report(int grant) throws IndexOutOfBoundsException, IllegalStateException {
        Grant told = grantAt(grant);
        needNotWithdrawn(told);
        boolean isFirst = !told.reported;
        told.reported = true;
        return isFirst;
    }

    public int spend(int line, int amount)
            throws IndexOutOfBoundsException, IllegalArgumentException, IllegalStateException {
        Line spending = lineAt(line);
        needRange(amount, 1, MOST_BY_CALL);
        needFree(spending, amount);
        payFrom(spending.source, amount);
        spending.spent += amount;
        return freeOf(spending);
    }

    public int audit(int grant, int amount)
            throws IndexOutOfBoundsException, IllegalArgumentException, IllegalStateException {
        Grant audited = grantAt(grant);
        needRange(amount, 1, MOST_BY_CALL);
        needNotWithdrawn(audited);
        if (audited.paid < amount) {
            throw new IllegalStateException("less was paid of it");
        }
        audited.clawBack(amount);
        return audited.paid;
    }

    public int repay(int receiver, int amount)
            throws IndexOutOfBoundsException, IllegalArgumentException, IllegalStateException {
        Receiver payer = receiverAt(receiver);
        needRange(amount, 1, MOST_BY_CALL);
        if (payer.debt < amount) {
            throw new IllegalStateException("it owes less");
        }
        payer.debt -= amount;
        inReserve += amount;
        return payer.debt;
    }

    public int target(int percent) throws IllegalArgumentException {
        needRange(percent, 0, MOST_PERCENT);
        int before = percentOfTarget;
        percentOfTarget = percent;
        return before;
    }

    public int month(int months) throws IllegalArgumentException {
        needRange(months, 1, MOST_MONTHS_TO_PASS);
        for (int passed = 0; passed < months; passed++) {
            thisMonth++;
            withdrawOverdue();
            fillReserve();
        }
        return thisMonth;
    }

    // ---- what is asked

    public int ofLine(int line, int what) throws IndexOutOfBoundsException, IllegalArgumentException {
        Line asked = lineAt(line);
        switch (what) {
            case 0:
                return asked.stands();
            case 1:
                return asked.spent;
            case 2:
                return boundOf(asked);
            case 3:
                return freeOf(asked);
            case 4:
                return asked.taken;
            case 5:
                return asked.covered;
            case 6:
                return asked.source.number;
            default:
                throw new IllegalArgumentException("what is out of range");
        }
    }

    public int standsAnew(int line) throws IndexOutOfBoundsException {
        Line asked = lineAt(line);
        int brought = 0;
        for (int i = 0; i < amendments.size(); i++) {
            Amendment amendment = amendments.get(i);
            if (amendment.line == asked && countsByVotes(amendment)) {
                brought += amendment.more;
            }
        }
        return asked.standsWith(brought);
    }

    public int ofAmendment(int amendment, int what) throws IndexOutOfBoundsException, IllegalArgumentException {
        Amendment asked = amendmentAt(amendment);
        switch (what) {
            case 0:
                return asked.state;
            case 1:
                return asked.brings;
            case 2:
                return asked.round;
            case 3:
                return asked.votesFor();
            case 4:
                return asked.votesAgainst();
            case 5:
                return numberOf(asked.above);
            case 6:
                return asked.line.number;
            case 7:
                return countOn(asked);
            default:
                throw new IllegalArgumentException("what is out of range");
        }
    }

    public int ofGrant(int grant, int what) throws IndexOutOfBoundsException, IllegalArgumentException {
        Grant asked = grantAt(grant);
        switch (what) {
            case 0:
                return asked.state;
            case 1:
                return asked.sum;
            case 2:
                return asked.paid;
            case 3:
                return asked.line.number;
            case 4:
                return asked.receiver.number;
            case 5:
                return numberOf(asked.hangsOn);
            case 6:
                return asked.lastMonth;
            case 7:
                return asked.reported ? 1 : 0;
            default:
                throw new IllegalArgumentException("what is out of range");
        }
    }

    public int owes(int receiver) throws IndexOutOfBoundsException {
        return receiverAt(receiver).debt;
    }

    public int reserve() {
        return inReserve;
    }

    public int ofSource(int source, int what) throws IllegalArgumentException {
        Source asked = sourceAt(source);
        switch (what) {
            case 0:
                return asked.income;
            case 1:
                return asked.paid;
            case 2:
                return standsOfLinesFrom(asked);
            default:
                throw new IllegalArgumentException("what is out of range");
        }
    }

    // What a number stands for, and what a call needs.

    private Source sourceAt(int source) {
        if (source < 0 || source >= sources.size()) {
            throw new IllegalArgumentException("source is out of range");
        }
        return sources.get(source);
    }

    private Receiver receiverAt(int receiver) {
        if (receiver < 0 || receiver >= receivers.size()) {
            throw new IndexOutOfBoundsException("no such receiver");
        }
        return receivers.get(receiver);
    }

    private Line lineAt(int line) {
        if (line < 0 || line >= lines.size()) {
            throw new IndexOutOfBoundsException("no such line");
        }
        return lines.get(line);
    }

    private Amendment amendmentAt(int amendment) {
        if (amendment < 0 || amendment >= amendments.size()) {
            throw new IndexOutOfBoundsException("no such amendment");
        }
        return amendments.get(amendment);
    }

    private Grant grantAt(int grant) {
        if (grant < 0 || grant >= grants.size()) {
            throw new IndexOutOfBoundsException("no such grant");
        }
        return grants.get(grant);
    }

    private static int numberOf(Amendment amendment) {
        return amendment == null ? NONE : amendment.number;
    }

    private static void needRange(int value, int least, int most) {
        if (value < least || value > most) {
            throw new IllegalArgumentException("a value is out of range");
        }
    }

    private static void needMore(int more) {
        needRange(more, -MOST_BY_CALL, MOST_BY_CALL);
        if (more == 0) {
            throw new IllegalArgumentException("more is 0");
        }
    }

    private void needRoomForAmendment() {
        if (amendments.size() >= MOST_AMENDMENTS) {
            throw new IllegalStateException("no more amendments can be made");
        }
    }

    private static void needOpen(Amendment amendment) {
        if (amendment.state != OPEN) {
            throw new IllegalStateException("the amendment is not open");
        }
    }

    private static void needPassed(Amendment amendment) {
        if (amendment.state != PASSED) {
            throw new IllegalStateException("the amendment is not passed");
        }
    }

    private static void needNotWithdrawn(Grant grant) {
        if (grant.state == WITHDRAWN) {
            throw new IllegalStateException("the grant is withdrawn");
        }
    }

    private void needFree(Line line, int amount) {
        if (freeOf(line) < amount) {
            throw new IllegalStateException("less is free of the line");
        }
    }

    private static void payFrom(Source source, int amount) {
        if (source.unpaid() < amount) {
            throw new IllegalStateException("more would be paid than the source's income");
        }
        source.paid += amount;
    }

    // Amendments.

    private int addAmendment(Amendment above, Line line, int more) {
        int number = amendments.size();
        amendments.add(new Amendment(number, above, line, more));
        return number;
    }

    private int countOn(Amendment above) {
        int count = 0;
        for (int i = 0; i < amendments.size(); i++) {
            if (amendments.get(i).above == above) {
                count++;
            }
        }
        return count;
    }

    private boolean isOneOpenOn(Amendment above) {
        for (int i = 0; i < amendments.size(); i++) {
            Amendment amendment = amendments.get(i);
            if (amendment.above == above && amendment.state == OPEN) {
                return true;
            }
        }
        return false;
    }

    private void makePassed(Amendment amendment) {
        amendment.state = PASSED;
        reckonWhatIsBrought();
        // One on another changes no line yet: that other one is still OPEN.
        if (amendment.above == null) {
            balance(amendment.line);
        }
    }

    /** Tells how many grants are WITHDRAWN or CUT by that. */
    private int makeFallen(Amendment amendment) {
        amendment.state = FALLEN;
        fellAllOnFallen();
        reckonWhatIsBrought();
        int withdrawn = withdrawThoseOnFallen();
        return withdrawn + balance(amendment.line);
    }

    private void fellAllOnFallen() {
        // One on another has the higher number, so that one rising pass reaches every depth.
        for (int i = 0; i < amendments.size(); i++) {
            Amendment amendment = amendments.get(i);
            if (amendment.above != null && amendment.above.state == FALLEN) {
                amendment.state = FALLEN;
            }
        }
    }

    private void reckonWhatIsBrought() {
        for (int i = 0; i < lines.size(); i++) {
            lines.get(i).brought = 0;
        }
        for (int i = 0; i < amendments.size(); i++) {
            Amendment amendment = amendments.get(i);
            amendment.brings = amendment.more;
        }
        // By falling numbers: all that is on an amendment is added to it before it is passed on.
        for (int i = amendments.size() - 1; i >= 0; i--) {
            passOn(amendments.get(i));
        }
    }

    private static void passOn(Amendment amendment) {
        if (amendment.state != PASSED) {
            return;
        }
        if (amendment.above == null) {
            amendment.line.brought += amendment.brings;
        } else {
            amendment.above.brings += amendment.brings;
        }
    }

    private static boolean countsByVotes(Amendment amendment) {
        for (Amendment next = amendment; next != null; next = next.above) {
            if (next.state == OPEN || next.struck || !next.isWon()) {
                return false;
            }
        }
        return true;
    }

    // Grants and lines.

    private int boundOf(Line line) {
        int bound = line.spent;
        for (int i = 0; i < grants.size(); i++) {
            Grant grant = grants.get(i);
            if (grant.line == line) {
                bound += grant.binds();
            }
        }
        return bound;
    }

    private int freeOf(Line line) {
        return line.stands() - boundOf(line);
    }

    private int standsOfLinesFrom(Source source) {
        int together = 0;
        for (int i = 0; i < lines.size(); i++) {
            Line line = lines.get(i);
            if (line.source == source) {
                together += line.stands();
            }
        }
        return together;
    }

    private int withdrawThoseOnFallen() {
        int withdrawn = 0;
        for (int i = 0; i < grants.size(); i++) {
            Grant grant = grants.get(i);
            if (grant.state == LIVE && grant.hangsOnFallen()) {
                grant.withdraw();
                withdrawn++;
            }
        }
        return withdrawn;
    }

    private void withdrawOverdue() {
        for (int i = 0; i < grants.size(); i++) {
            Grant grant = grants.get(i);
            if (grant.isOverdue(thisMonth)) {
                grant.withdraw();
            }
        }
    }

    /** Cuts grants while less stands than is bound; what still lacks then, the reserve covers. */
    private int balance(Line line) {
        int cut = 0;
        for (int i = grants.size() - 1; i >= 0 && freeOf(line) < 0; i--) {
            Grant grant = grants.get(i);
            if (grant.line == line && grant.state == LIVE) {
                grant.cut();
                cut++;
            }
        }
        int lacks = -freeOf(line);
        if (lacks > 0) {
            line.covered += lacks;
            inReserve -= lacks;
        }
        return cut;
    }

    // The reserve.

    private void fillReserve() {
        int goal = targetNow();
        for (int i = 0; i < lines.size() && inReserve < goal; i++) {
            takeFrom(lines.get(i), goal - inReserve);
        }
    }

    private void takeFrom(Line line, int lacks) {
        int free = freeOf(line);
        if (free > 0) {
            int taken = Math.min(free / 10, lacks);
            line.taken += taken;
            inReserve += taken;
        }
    }

    private int targetNow() {
        long together = 0;
        for (int i = 0; i < lines.size(); i++) {
            together += lines.get(i).stands();
        }
        return together < 0 ? 0 : (int) (together * percentOfTarget / 100);
    }
}

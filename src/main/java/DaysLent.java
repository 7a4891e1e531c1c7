/**
 * Days lent at a morning: people, their free mornings, what they owe one another, and what may come of it.
 * The promises named in the comments are those of the document (../shared/DOC.md).
 */
public final class DaysLent {
    public static final int UNKNOWN = -1, BAD = -2, LATE = -3, FULL = -4, NONE = -9;

    private static final int MOST_PEOPLE = 6;
    private static final int MOST_DEBTS = 12;
    private static final int MOST_TOLD_DEBTS = 8;
    private static final int MOST_BYTES = 80;
    private static final int MOST_BYTES_AT_ONCE = 8;
    private static final int MOST_ACTS = 10;
    private static final int MOST_DAYS = 12;
    private static final int SLOTS = 2;
    private static final int SETS_OF_PEOPLE = 64;

    private static final int MOST_AT_ONCE = 99;
    private static final int MOST_ASKED = 9;
    private static final int MOST_WEEKS = 9;
    private static final int MOST_OWED_TO_BORROW = 80;
    private static final int LAST_DAY = 99;
    private static final int WEEKS_TO_SPRING = 4;
    private static final int KEPT_IN_SPRING = 20;
    private static final int NET_ZERO = 10000;
    private static final int TENTHS = 10;
    private static final int HUNDREDTHS = 100;

    private final Text text = new Text();
    private final Ledger now = new Ledger();
    private final Acts acts = new Acts();
    private final Slots slots = new Slots();
    private final DayBook days = new DayBook();
    private final Settlement settlement = new Settlement();
    private final Rings rings = new Rings();
    private final Lenders lenders = new Lenders();
    private final Creditors creditors = new Creditors();

    public DaysLent() {
    }

    // ---- the book

    public int write(int n, long v) {
        if (n < 1 || n > MOST_BYTES_AT_ONCE) {
            return BAD;
        }
        return text.append(n, v) ? text.length : FULL;
    }

    public int wipe() {
        int before = text.length;
        text.length = 0;
        return before;
    }

    public int fault() {
        return text.firstFault();
    }

    public int book() {
        if (text.firstFault() != NONE) {
            return LATE;
        }
        text.tellTo(now);
        acts.clear();
        slots.clear();
        return now.people;
    }

    public int about(int what) {
        switch (what) {
            case 0: return now.people;
            case 1: return now.debts;
            case 2: return now.weekNumber;
            case 3: return acts.count;
            case 4: return now.alive;
            case 5: return now.broken;
            case 6: return now.allMornings();
            case 7: return now.allOwed();
            case 8: return days.count;
            case 9: return text.length;
            default: return BAD;
        }
    }

    public int person(int person, int what) {
        if (!now.has(person)) {
            return UNKNOWN;
        }
        switch (what) {
            case 0: return now.mornings[person];
            case 1: return now.asks[person];
            case 2: return now.isAlive(person) ? 1 : 0;
            case 3: return now.isBroken(person) ? 1 : 0;
            case 4: return now.owedBy(person);
            case 5: return now.owedTo(person);
            case 6: return now.netOf(person) + NET_ZERO;
            default: return BAD;
        }
    }

    public int debt(int debt, int what) {
        if (debt < 0 || debt >= now.debts || debt >= MOST_DEBTS) {
            return UNKNOWN;
        }
        switch (what) {
            case 0: return now.creditor[debt];
            case 1: return now.debtor[debt];
            case 2: return now.amount[debt];
            case 3: return now.due[debt];
            default: return BAD;
        }
    }

    public int ask(int person, int r) {
        if (!now.has(person)) {
            return UNKNOWN;
        }
        if (r < 0 || r > MOST_ASKED) {
            return BAD;
        }
        int before = now.asks[person];
        now.asks[person] = r;
        return before;
    }

    // ---- acts

    public int lend(int i, int j, int a, int weeks) {
        if (!now.has(i) || !now.has(j)) {
            return UNKNOWN;
        }
        if (i == j || !isLoan(a) || weeks < 1 || weeks > MOST_WEEKS) {
            return BAD;
        }
        if (!now.mayLend(i, j, a)) {
            return LATE;
        }
        if (now.debts >= MOST_DEBTS) {
            return FULL;
        }
        acts.remember(now);
        return now.giveAsLoan(i, j, a, weeks);
    }

    public int week() {
        acts.remember(now);
        return now.passWeek();
    }

    public int heirs(int person, int heirs) {
        if (!now.has(person)) {
            return UNKNOWN;
        }
        if (!now.areAllPeople(heirs) || heirs == 0 || isIn(heirs, person)) {
            return BAD;
        }
        if (!now.isAlive(person) || (heirs & ~now.alive) != 0) {
            return LATE;
        }
        acts.remember(now);
        return now.passOn(person, heirs);
    }

    public int jubilee() {
        acts.remember(now);
        return now.forgive();
    }

    public int undo() {
        if (acts.count == 0) {
            return LATE;
        }
        acts.takeBack(now);
        return acts.count;
    }

    // ---- settled

    public int fewest() {
        return settlement.fewestPayments(now);
    }

    public int falls(int people) {
        if (!now.areAllPeople(people)) {
            return BAD;
        }
        return settlement.fallen(now, people);
    }

    public int ring(int person) {
        if (!now.has(person)) {
            return UNKNOWN;
        }
        return rings.fewestDebts(now, person);
    }

    public int room(int person) {
        if (!now.has(person)) {
            return UNKNOWN;
        }
        return rings.leastAmount(now, person);
    }

    // ---- wishes, runs

    public int wish(int person, int a) {
        int refusal = refusalOfWish(person, a);
        if (refusal != 0) {
            return refusal;
        }
        lenders.weigh(now, person, a);
        return lenders.cheapest(a);
    }

    public int wishBy(int person, int a, int other) {
        if (!now.has(other)) {
            return UNKNOWN;
        }
        int refusal = refusalOfWish(person, a);
        if (refusal != 0) {
            return refusal;
        }
        lenders.weigh(now, person, a);
        return lenders.lentBy(now, other, a);
    }

    public long run(int person, int x, boolean upper) {
        if (!now.has(person)) {
            return UNKNOWN;
        }
        if (x < 0 || x > TENTHS) {
            return BAD;
        }
        creditors.gather(now, person, x);
        int above = creditors.waysWithin(now.mornings[person]);
        int below = creditors.allWays;
        int common = commonDivisor(above, below);
        if (common < 1) {
            return upper ? above : below;
        }
        return upper ? above / common : below / common;
    }

    public int enough(int person, int x, int y) {
        if (!now.has(person)) {
            return UNKNOWN;
        }
        if (x < 0 || x > TENTHS || y < 0 || y > HUNDREDTHS) {
            return BAD;
        }
        creditors.gather(now, person, x);
        return creditors.leastEnough(y);
    }

    // ---- books of days

    public int day(int person, int day, boolean seen) {
        if (!now.has(person)) {
            return UNKNOWN;
        }
        if (day < 0 || day > LAST_DAY) {
            return BAD;
        }
        return days.append(person, day, seen) ? days.count : FULL;
    }

    public int forget() {
        int before = days.count;
        days.count = 0;
        return before;
    }

    public int cheats() {
        return days.caught() & now.allPeople();
    }

    // ---- slots

    public int keep(int slot) {
        if (slot < 0 || slot >= SLOTS) {
            return UNKNOWN;
        }
        slots.put(slot, now);
        return now.debts;
    }

    public int again(int slot) {
        if (slot < 0 || slot >= SLOTS) {
            return UNKNOWN;
        }
        if (!slots.used[slot]) {
            return LATE;
        }
        now.copyFrom(slots.kept[slot]);
        acts.clear();
        return now.debts;
    }

    // ---- what several of them need

    /** 0, if the wish is not refused. */
    private int refusalOfWish(int person, int a) {
        if (!now.has(person)) {
            return UNKNOWN;
        }
        if (!isLoan(a)) {
            return BAD;
        }
        return now.isAlive(person) ? 0 : LATE;
    }

    private static boolean isLoan(int a) {
        return a >= 1 && a <= MOST_AT_ONCE;
    }

    private static boolean isIn(int set, int person) {
        return (set >> person & 1) != 0;
    }

    /** What one that asks r for each two mornings asks for a of them. */
    private static int askedFor(int a, int r) {
        return (a + 1) / 2 * r;
    }

    private static int commonDivisor(int a, int b) {
        int greater = a;
        int lesser = b;
        // Euclid needs fewer than 50 steps for any two ints
        for (int step = 0; step < 50 && lesser != 0; step++) {
            int rest = greater % lesser;
            greater = lesser;
            lesser = rest;
        }
        return greater;
    }

    /** THE TEXT, and what it tells. */
    private static final class Text {
        private static final int PERSON_BYTES = 4;
        private static final int DEBT_BYTES = 6;

        final byte[] bytes = new byte[MOST_BYTES];
        int length = 0;

        /** False, and nothing comes, if there is no room for all n bytes. */
        boolean append(int n, long v) {
            if (length + n > MOST_BYTES) {
                return false;
            }
            for (int left = n - 1; left >= 0; left--) {
                bytes[length] = (byte) (v >>> (8 * left));
                length++;
            }
            return true;
        }

        int firstFault() {
            int people = 0;
            int debts = 0;
            int start = 0;
            for (int place = 0; place < length; place++) {
                if (!mayStand(start, place, people, debts)) {
                    return place;
                }
                int next = place + 1;
                if (next - start == bytesOfPart(start)) {
                    if (bytes[start] == 'P') {
                        people++;
                    } else {
                        debts++;
                    }
                    start = next;
                }
            }
            return start == length ? NONE : length;
        }

        private int bytesOfPart(int start) {
            return bytes[start] == 'P' ? PERSON_BYTES : DEBT_BYTES;
        }

        /** If the byte at place may stand in the part that begins at start, behind so many people and debts. */
        private boolean mayStand(int start, int place, int people, int debts) {
            if (place == start) {
                return mayBegin(bytes[place], people, debts);
            }
            int digit = digitAt(place);
            if (digit < 0) {
                return false;
            }
            return bytes[start] == 'P' || mayStandInDebt(place, place - start, digit, people);
        }

        private static boolean mayBegin(byte kind, int people, int debts) {
            if (kind == 'P') {
                return people < MOST_PEOPLE;
            }
            // a debt wants two people ahead of it, so with fewer its first byte is the fault
            return kind == 'D' && people >= 2 && debts < MOST_TOLD_DEBTS;
        }

        private boolean mayStandInDebt(int place, int offset, int digit, int people) {
            switch (offset) {
                case 1: return digit < people;
                case 2: return digit < people && digit != digitAt(place - 1);
                case 3: return true;
                case 4: return digit != 0 || digitAt(place - 1) != 0;
                default: return digit != 0;
            }
        }

        /** The digit at a place; -1, if none stands there. */
        private int digitAt(int place) {
            if (place < 0 || place >= length) {
                return -1;
            }
            int sign = bytes[place];
            return sign >= '0' && sign <= '9' ? sign - '0' : -1;
        }

        private int twoDigitsAt(int place) {
            return 10 * digitAt(place) + digitAt(place + 1);
        }

        /** Only for a text without a fault. */
        void tellTo(Ledger ledger) {
            ledger.clear();
            int start = 0;
            for (int part = 0; part < MOST_PEOPLE + MOST_TOLD_DEBTS && start < length; part++) {
                if (bytes[start] == 'P') {
                    ledger.addPerson(twoDigitsAt(start + 1), digitAt(start + 3));
                } else {
                    ledger.addDebt(digitAt(start + 1), digitAt(start + 2), twoDigitsAt(start + 3), digitAt(start + 5));
                }
                start += bytesOfPart(start);
            }
        }
    }

    /** PEOPLE, DEBTS and THE WEEK: all that an act changes and a slot keeps. */
    private static final class Ledger {
        int people = 0;
        int debts = 0;
        int weekNumber = 0;
        int alive = 0;
        int broken = 0;
        final int[] mornings = new int[MOST_PEOPLE];
        final int[] asks = new int[MOST_PEOPLE];
        final int[] creditor = new int[MOST_DEBTS];
        final int[] debtor = new int[MOST_DEBTS];
        final int[] amount = new int[MOST_DEBTS];
        final int[] due = new int[MOST_DEBTS];

        void clear() {
            people = 0;
            debts = 0;
            weekNumber = 0;
            alive = 0;
            broken = 0;
        }

        void copyFrom(Ledger other) {
            people = other.people;
            debts = other.debts;
            weekNumber = other.weekNumber;
            alive = other.alive;
            broken = other.broken;
            System.arraycopy(other.mornings, 0, mornings, 0, MOST_PEOPLE);
            System.arraycopy(other.asks, 0, asks, 0, MOST_PEOPLE);
            System.arraycopy(other.creditor, 0, creditor, 0, MOST_DEBTS);
            System.arraycopy(other.debtor, 0, debtor, 0, MOST_DEBTS);
            System.arraycopy(other.amount, 0, amount, 0, MOST_DEBTS);
            System.arraycopy(other.due, 0, due, 0, MOST_DEBTS);
        }

        void addPerson(int has, int asksFor) {
            if (people >= MOST_PEOPLE) {
                return;
            }
            mornings[people] = has;
            asks[people] = asksFor;
            alive |= 1 << people;
            people++;
        }

        void addDebt(int to, int by, int much, int when) {
            if (debts >= MOST_DEBTS || !has(to) || !has(by)) {
                return;
            }
            creditor[debts] = to;
            debtor[debts] = by;
            amount[debts] = much;
            due[debts] = when;
            debts++;
        }

        /** Debts that stay are moved ahead one by one, into the places of those that are gone. */
        private void moveDebt(int from, int to) {
            creditor[to] = creditor[from];
            debtor[to] = debtor[from];
            amount[to] = amount[from];
            due[to] = due[from];
        }

        boolean has(int person) {
            return person >= 0 && person < people && person < MOST_PEOPLE;
        }

        int allPeople() {
            return (1 << people) - 1;
        }

        boolean areAllPeople(int set) {
            return (set & ~allPeople()) == 0;
        }

        boolean isAlive(int person) {
            return isIn(alive, person);
        }

        boolean isBroken(int person) {
            return isIn(broken, person);
        }

        int allMornings() {
            int sum = 0;
            for (int person = 0; person < people; person++) {
                sum += mornings[person];
            }
            return sum;
        }

        int allOwed() {
            int sum = 0;
            for (int debt = 0; debt < debts; debt++) {
                sum += amount[debt];
            }
            return sum;
        }

        int owedBy(int person) {
            int sum = 0;
            for (int debt = 0; debt < debts; debt++) {
                if (debtor[debt] == person) {
                    sum += amount[debt];
                }
            }
            return sum;
        }

        int owedTo(int person) {
            int sum = 0;
            for (int debt = 0; debt < debts; debt++) {
                if (creditor[debt] == person) {
                    sum += amount[debt];
                }
            }
            return sum;
        }

        int netOf(int person) {
            return owedTo(person) - owedBy(person);
        }

        boolean mayLend(int lender, int borrower, int a) {
            return mornings[lender] >= a && isAlive(lender) && isAlive(borrower) && !isBroken(borrower)
                    && owedBy(borrower) + loanWithAsked(lender, a) <= MOST_OWED_TO_BORROW;
        }

        private int loanWithAsked(int lender, int a) {
            return a + askedFor(a, asks[lender]);
        }

        int giveAsLoan(int lender, int borrower, int a, int weeks) {
            int owed = loanWithAsked(lender, a);
            mornings[lender] -= a;
            mornings[borrower] += a;
            addDebt(lender, borrower, owed, weekNumber + weeks);
            return owed;
        }

        /** Who is broken by it and was not. */
        int passWeek() {
            int brokenBefore = broken;
            weekNumber++;
            int left = 0;
            for (int debt = 0; debt < debts; debt++) {
                if (due[debt] == weekNumber) {
                    pay(debt);
                } else {
                    moveDebt(debt, left);
                    left++;
                }
            }
            debts = left;
            if (weekNumber % WEEKS_TO_SPRING == 0) {
                goBad();
            }
            return broken & ~brokenBefore;
        }

        private void pay(int debt) {
            int by = debtor[debt];
            int paid = Math.min(amount[debt], mornings[by]);
            if (paid < amount[debt]) {
                broken |= 1 << by;
            }
            mornings[by] -= paid;
            mornings[creditor[debt]] += paid;
        }

        private void goBad() {
            for (int person = 0; person < people; person++) {
                mornings[person] = Math.min(mornings[person], KEPT_IN_SPRING);
            }
        }

        /** The person dies; how many debts are gone by it. */
        int passOn(int person, int heirs) {
            int sharers = Integer.bitCount(heirs);
            if (sharers == 0) {
                return 0;
            }
            int least = leastOf(heirs);
            int share = mornings[person] / sharers;
            int rest = mornings[person] % sharers;
            for (int heir = 0; heir < people; heir++) {
                if (isIn(heirs, heir)) {
                    mornings[heir] += heir == least ? share + rest : share;
                }
            }
            mornings[person] = 0;
            alive &= ~(1 << person);
            return passDebtsOn(person, least);
        }

        private int leastOf(int set) {
            for (int person = 0; person < people; person++) {
                if (isIn(set, person)) {
                    return person;
                }
            }
            return 0;
        }

        private int passDebtsOn(int person, int heir) {
            int before = debts;
            int left = 0;
            for (int debt = 0; debt < before; debt++) {
                if (creditor[debt] == person) {
                    creditor[debt] = heir;
                }
                if (debtor[debt] == person) {
                    debtor[debt] = heir;
                }
                if (creditor[debt] != debtor[debt]) {
                    moveDebt(debt, left);
                    left++;
                }
            }
            debts = left;
            return before - left;
        }

        /** A jubilee; how many debts are gone by it. */
        int forgive() {
            int gone = debts;
            debts = 0;
            broken = 0;
            return gone;
        }
    }

    /** The row of acts: for each of them the ledger as it was ahead of it. */
    private static final class Acts {
        final Ledger[] before = new Ledger[MOST_ACTS];
        int first = 0;
        int count = 0;

        Acts() {
            for (int act = 0; act < MOST_ACTS; act++) {
                before[act] = new Ledger();
            }
        }

        void clear() {
            first = 0;
            count = 0;
        }

        void remember(Ledger ledger) {
            if (count == MOST_ACTS) {
                first = placeOf(1);
                count--;
            }
            before[placeOf(count)].copyFrom(ledger);
            count++;
        }

        /** Only where there is an act. */
        void takeBack(Ledger ledger) {
            count--;
            ledger.copyFrom(before[placeOf(count)]);
        }

        /** The row goes round, so that forgetting its first act moves nothing. */
        private int placeOf(int act) {
            return (first + act) % MOST_ACTS;
        }
    }

    private static final class Slots {
        final Ledger[] kept = new Ledger[SLOTS];
        final boolean[] used = new boolean[SLOTS];

        Slots() {
            for (int slot = 0; slot < SLOTS; slot++) {
                kept[slot] = new Ledger();
            }
        }

        void clear() {
            for (int slot = 0; slot < SLOTS; slot++) {
                used[slot] = false;
            }
        }

        void put(int slot, Ledger ledger) {
            kept[slot].copyFrom(ledger);
            used[slot] = true;
        }
    }

    /** Days TAKEN and days SEEN, as they came. */
    private static final class DayBook {
        final int[] who = new int[MOST_DAYS];
        final int[] when = new int[MOST_DAYS];
        final boolean[] atWork = new boolean[MOST_DAYS];
        int count = 0;

        /** False, if there is no room. */
        boolean append(int person, int day, boolean seen) {
            if (count >= MOST_DAYS) {
                return false;
            }
            who[count] = person;
            when[count] = day;
            atWork[count] = seen;
            count++;
            return true;
        }

        /** Who cheats, among all that were ever told: some of them may be no people of a later book. */
        int caught() {
            int set = 0;
            for (int one = 0; one < count; one++) {
                if (!atWork[one] && isToldAgain(one)) {
                    set |= 1 << who[one];
                }
            }
            return set;
        }

        private boolean isToldAgain(int one) {
            for (int other = 0; other < count; other++) {
                if (other != one && who[other] == who[one] && when[other] == when[one]) {
                    return true;
                }
            }
            return false;
        }
    }

    /** All debts at once: settled by nets, or paid as far as they can be. */
    private static final class Settlement {
        final int[] sums = new int[SETS_OF_PEOPLE];
        final int[] groups = new int[SETS_OF_PEOPLE];

        /**
         * People whose nets are 0 together settle among themselves by one payment fewer than they are, so the most
         * such groups (one alone with net 0 is one) make the fewest payments.
         */
        int fewestPayments(Ledger ledger) {
            int all = ledger.allPeople();
            // for nobody both are 0, as they were made
            for (int set = 1; set <= all && set < SETS_OF_PEOPLE; set++) {
                sumUp(ledger, set);
            }
            return ledger.people - groups[all];
        }

        private void sumUp(Ledger ledger, int set) {
            int most = 0;
            for (int person = 0; person < ledger.people; person++) {
                if (isIn(set, person)) {
                    int others = set & ~(1 << person);
                    most = Math.max(most, groups[others]);
                    sums[set] = others == 0 ? ledger.netOf(person) : sums[others] + sums[1 << person];
                }
            }
            groups[set] = sums[set] == 0 ? most + 1 : most;
        }

        /** Who is left out of the greatest set in which each can pay, when those that are told pay nothing. */
        int fallen(Ledger ledger, int told) {
            int paying = ledger.allPeople() & ~told;
            // every round but the last drops one at least, or nothing changes any more
            for (int round = 0; round < MOST_PEOPLE; round++) {
                paying = thoseThatCan(ledger, paying);
            }
            return ledger.allPeople() & ~paying;
        }

        private int thoseThatCan(Ledger ledger, int paying) {
            int able = 0;
            for (int person = 0; person < ledger.people; person++) {
                if (isIn(paying, person)
                        && ledger.mornings[person] + paidTo(ledger, person, paying) >= ledger.owedBy(person)) {
                    able |= 1 << person;
                }
            }
            return able;
        }

        private int paidTo(Ledger ledger, int person, int paying) {
            int sum = 0;
            for (int debt = 0; debt < ledger.debts; debt++) {
                if (ledger.creditor[debt] == person && isIn(paying, ledger.debtor[debt])) {
                    sum += ledger.amount[debt];
                }
            }
            return sum;
        }
    }

    /** Debts that lead back to a person. */
    private static final class Rings {
        private static final int FAR = 1000;
        private static final int MORE_THAN_ANY_DEBT = 1000;

        /** For each person the fewest debts that lead from it to the one that is asked about. */
        final int[] steps = new int[MOST_PEOPLE];

        int fewestDebts(Ledger ledger, int person) {
            measure(ledger, person);
            int fewest = FAR;
            for (int debt = 0; debt < ledger.debts; debt++) {
                if (ledger.debtor[debt] == person) {
                    fewest = Math.min(fewest, steps[ledger.creditor[debt]] + 1);
                }
            }
            return fewest < FAR ? fewest : NONE;
        }

        /** A shortest way meets nobody twice, so only the numbers of its debts need to be looked at. */
        int leastAmount(Ledger ledger, int person) {
            int left = fewestDebts(ledger, person);
            if (left == NONE) {
                return NONE;
            }
            int at = person;
            int least = MORE_THAN_ANY_DEBT;
            for (int step = 0; step < MOST_PEOPLE && left > 0; step++) {
                left--;
                int debt = firstDebt(ledger, at, left);
                if (debt == NONE) {
                    return NONE;
                }
                least = Math.min(least, ledger.amount[debt]);
                at = ledger.creditor[debt];
            }
            return least;
        }

        /** The first debt from a person to one that is so many debts from the ring's end. */
        private int firstDebt(Ledger ledger, int by, int left) {
            for (int debt = 0; debt < ledger.debts; debt++) {
                if (ledger.debtor[debt] == by && steps[ledger.creditor[debt]] == left) {
                    return debt;
                }
            }
            return NONE;
        }

        private void measure(Ledger ledger, int person) {
            for (int other = 0; other < MOST_PEOPLE; other++) {
                steps[other] = other == person ? 0 : FAR;
            }
            // each round settles those that are one debt farther
            for (int round = 1; round < MOST_PEOPLE; round++) {
                for (int debt = 0; debt < ledger.debts; debt++) {
                    int by = ledger.debtor[debt];
                    steps[by] = Math.min(steps[by], steps[ledger.creditor[debt]] + 1);
                }
            }
        }
    }

    /** Who lends how much to meet a wish most cheaply. */
    private static final class Lenders {
        private static final int TOO_MUCH = 1000000;
        private static final int AMOUNTS = MOST_AT_ONCE + 1;

        /** least[p][s]: what is asked at least, if the people from p on lend s together. */
        final int[][] least = new int[MOST_PEOPLE + 1][AMOUNTS];
        final int[] limit = new int[MOST_PEOPLE];

        void weigh(Ledger ledger, int wisher, int a) {
            for (int sum = 0; sum <= a && sum < AMOUNTS; sum++) {
                least[ledger.people][sum] = sum == 0 ? 0 : TOO_MUCH;
            }
            for (int lender = ledger.people - 1; lender >= 0; lender--) {
                boolean mayLend = lender != wisher && ledger.isAlive(lender);
                limit[lender] = mayLend ? ledger.mornings[lender] : 0;
                for (int sum = 0; sum <= a && sum < AMOUNTS; sum++) {
                    least[lender][sum] = leastWith(lender, ledger.asks[lender], sum);
                }
            }
        }

        private int leastWith(int lender, int asks, int sum) {
            int best = TOO_MUCH;
            for (int part = 0; part <= sum && part <= limit[lender]; part++) {
                best = Math.min(best, askedFor(part, asks) + least[lender + 1][sum - part]);
            }
            return best;
        }

        int cheapest(int a) {
            return least[0][a] < TOO_MUCH ? least[0][a] : NONE;
        }

        int lentBy(Ledger ledger, int other, int a) {
            if (cheapest(a) == NONE) {
                return NONE;
            }
            int sum = a;
            int part = 0;
            for (int lender = 0; lender <= other && lender < ledger.people; lender++) {
                part = fewestOf(lender, ledger.asks[lender], sum);
                sum -= part;
            }
            return part;
        }

        /** The least part by which the sum is still met at the least price. */
        private int fewestOf(int lender, int asks, int sum) {
            for (int part = 0; part <= sum && part <= limit[lender]; part++) {
                if (askedFor(part, asks) + least[lender + 1][sum - part] == least[lender][sum]) {
                    return part;
                }
            }
            return 0;
        }
    }

    /** Those that a person owes something, each of which asks all of it, or nothing. */
    private static final class Creditors {
        /**
         * For each set of people: what they ask together, and in how many ways of allWays just they ask: in none, if
         * one of them is owed nothing.
         */
        final int[] asked = new int[SETS_OF_PEOPLE];
        final int[] ways = new int[SETS_OF_PEOPLE];
        int all = 0;
        int allWays = 1;

        void gather(Ledger ledger, int person, int tenths) {
            all = 0;
            for (int set = 0; set < SETS_OF_PEOPLE; set++) {
                asked[set] = 0;
            }
            for (int debt = 0; debt < ledger.debts; debt++) {
                if (ledger.debtor[debt] == person) {
                    int bit = 1 << ledger.creditor[debt];
                    asked[bit] += ledger.amount[debt];
                    all |= bit;
                }
            }
            allWays = 1;
            ways[0] = 1;
            for (int other = 0; other < ledger.people; other++) {
                spread(1 << other, tenths);
            }
        }

        /** Each set of those ahead of this one is told without it and with it. */
        private void spread(int bit, int tenths) {
            boolean isOwed = (all & bit) != 0;
            int one = asked[bit];
            for (int set = 0; set < bit; set++) {
                asked[set | bit] = asked[set] + one;
                ways[set | bit] = isOwed ? ways[set] * tenths : 0;
                ways[set] = isOwed ? ways[set] * (TENTHS - tenths) : ways[set];
            }
            allWays = isOwed ? allWays * TENTHS : allWays;
        }

        int waysWithin(int mornings) {
            int sum = 0;
            for (int set = 0; set <= all; set++) {
                if (asked[set] <= mornings) {
                    sum += ways[set];
                }
            }
            return sum;
        }

        /** Only what some of them ask together can be the least that is enough. */
        int leastEnough(int hundredths) {
            int least = asked[all];
            for (int set = 0; set < all; set++) {
                if (asked[set] < least && waysWithin(asked[set]) * HUNDREDTHS >= hundredths * allWays) {
                    least = asked[set];
                }
            }
            return least;
        }
    }
}

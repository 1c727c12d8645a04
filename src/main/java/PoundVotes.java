import java.util.Arrays;

/**
 * How much is a pound: units whose greatness is elected for a year, and what
 * hangs on who is elected. The document tells what each call answers.
 *
 * All rows are made with the object and used again: no call makes anything.
 */
public final class PoundVotes {
    public static final int NONE = -1, BAD = -2, NOT = -3, FULL = -4;

    private static final int UNITS = 3, YEARS = 10, MOST_PARTIES = 4, MOST_VOTERS = 8;
    private static final int MOST_CHANGES = 10, MOST_CONTRACTS = 8, MOST_BILLS = 6;
    private static final int FIGURES = 9;
    private static final int ALL_YEARS = (1 << YEARS) - 1;
    private static final int[] DIGEST_YEARS = {0, 1, 9};

    private static final int TICKETS = 0, VOTERS = 1, RATIOS = 2;
    private static final int WHOLE_TICKET = 0, UNIT_BY_UNIT = 1, APPROVAL = 2;
    private static final int NULL = 1, INDEX = 2, CAST = 3, STORE = 4, SIZE = 5;

    private static final int MOST_PURSE = 999, FIRST_PURSE = 100;
    private static final int ANY_NUMBER = -100000;
    private static final int LEAST_INT = -2147483648;
    private static final long LEAST_LONG = -9223372036854775808L;

    // The parts of a CHANGE, a CONTRACT and a BILL in their rows.
    private static final int CHANGE_YEAR = 0, CHANGE_PARTY = 1, CHANGE_UNIT = 2, CHANGE_TO = 3;
    private static final int DEBTOR = 0, CREDITOR = 1, AMOUNT = 2, IN_UNIT = 3, MADE = 4, DUE = 5;
    private static final int BILL_MUCH = 0, BILL_UNIT = 1, BILL_PAID = 2;

    private final Text tickets = new Text(TICKETS, MOST_PARTIES);
    private final Text voters = new Text(VOTERS, MOST_VOTERS);
    private final Text ratios = new Text(RATIOS, Worths.MOST_RATIOS);
    private final Rows changes = new Rows(MOST_CHANGES, 4);
    private final Rows contracts = new Rows(MOST_CONTRACTS, 6);
    private final Rows bills = new Rows(MOST_BILLS, 3);
    private final int[] purses = new int[MOST_VOTERS];
    private final int[] held = new int[MOST_VOTERS];
    private final Roll roll = new Roll();
    private final Poll wholePoll = new Poll(roll, WHOLE_TICKET);
    private final Poll unitPoll = new Poll(roll, UNIT_BY_UNIT);
    private final Poll approvalPoll = new Poll(roll, APPROVAL);
    private final Ballot ballot = new Ballot(roll);
    private final Worths worths = new Worths();
    private final Towns towns = new Towns();
    private final Sheets sheets = new Sheets();
    private int law = WHOLE_TICKET;
    private int day = 0;
    private int finding = 0;
    private boolean stale = true;

    public PoundVotes() {
        Arrays.fill(purses, FIRST_PURSE);
    }

    // ---- tickets, voters

    public int type(int text, int b) {
        if (!isText(text) || !isWithin(b, 0, 255)) return BAD;
        Text t = textOf(text);
        if (t.isFull()) return FULL;
        t.append(b);
        stale = true;
        return t.size;
    }

    public int wipe(int text) {
        if (!isText(text)) return BAD;
        Text t = textOf(text);
        int had = t.size;
        t.size = 0;
        stale = true;
        return had;
    }

    public int undo(int text) {
        if (!isText(text)) return BAD;
        Text t = textOf(text);
        if (t.size <= 0) return NOT;
        t.size--;
        stale = true;
        return t.size;
    }

    public int fault(int text) {
        if (!isText(text)) return BAD;
        return textOf(text).faultPlace();
    }

    public int ticket(int year, int party, int unit) {
        settle();
        if (!isYear(year) || !isParty(party) || !isUnit(unit)) return BAD;
        return roll.figure(year, party, unit);
    }

    public int voter(int voter, int what) {
        settle();
        if (!isOnRoll(voter)) return BAD;
        if (what == 0) return roll.unitOf(voter);
        if (what == 1) return roll.owed(voter) > 0 ? 1 : 0;
        if (what == 2) return Math.abs(roll.owed(voter));
        return BAD;
    }

    public int set(int what, int v) {
        if (what == 0 && isWithin(v, WHOLE_TICKET, APPROVAL)) {
            int was = law;
            law = v;
            return was;
        }
        if (what == 1 && isWithin(v, 0, 1)) {
            int was = day;
            day = v;
            return was;
        }
        return BAD;
    }

    public int purse(int voter, int v) {
        if (!isPerson(voter) || !isWithin(v, 0, MOST_PURSE)) return BAD;
        int was = purses[voter];
        purses[voter] = v;
        return was;
    }

    public int change(int year, int party, int unit, int v) {
        if (!isYear(year) || !isWithin(party, 0, MOST_PARTIES - 1)) return BAD;
        if (!isUnit(unit) || !isWithin(v, 1, FIGURES)) return BAD;
        if (changes.isFull()) return FULL;
        int[] row = changes.next();
        row[CHANGE_YEAR] = year;
        row[CHANGE_PARTY] = party;
        row[CHANGE_UNIT] = unit;
        row[CHANGE_TO] = v;
        stale = true;
        return changes.size;
    }

    public int back(int what) {
        if (!isWithin(what, 0, 2)) return BAD;
        Rows rows = what == 0 ? changes : what == 1 ? contracts : bills;
        if (rows.size <= 0) return NOT;
        rows.size--;
        stale = true;
        return rows.size;
    }

    // ---- years

    public int elected(int year, int unit) {
        if (!isYear(year) || !isUnit(unit)) return BAD;
        settle();
        return pollBy(law).winner(year, unit);
    }

    public int great(int year, int unit) {
        if (!isYear(year) || !isUnit(unit)) return BAD;
        settle();
        return pollBy(law).greatness(year, unit);
    }

    public int votes(int year, int unit, int party) {
        settle();
        if (!isYear(year) || !isUnit(unit) || !isParty(party)) return BAD;
        return pollBy(law).tally(year, unit, party);
    }

    public int split() {
        settle();
        wholePoll.update();
        unitPoll.update();
        int bits = 0;
        for (int year = 0; year < YEARS; year++) {
            for (int unit = 0; unit < UNITS; unit++) {
                if (wholePoll.greatness(year, unit) != unitPoll.greatness(year, unit)) bits |= 1 << year;
            }
        }
        return bits;
    }

    public int contract(int from, int to, int much, int unit, int made, int due) {
        if (!isPerson(from) || !isPerson(to) || from == to) return BAD;
        if (!isWithin(much, 1, 99) || !isUnit(unit)) return BAD;
        if (!isYear(made) || !isYear(due) || due <= made) return BAD;
        if (contracts.isFull()) return FULL;
        int[] row = contracts.next();
        row[DEBTOR] = from;
        row[CREDITOR] = to;
        row[AMOUNT] = much;
        row[IN_UNIT] = unit;
        row[MADE] = made;
        row[DUE] = due;
        return contracts.size;
    }

    public int money(int voter, int year) {
        if (!isPerson(voter) || !isYear(year)) return ANY_NUMBER + BAD;
        settle();
        return moneyBehind(voter, year);
    }

    public int ruined(int what) {
        if (!isWithin(what, 0, 1)) return BAD;
        settle();
        int first = firstRuin();
        if (first == NONE) return NONE;
        return contracts.rows[first][what == 0 ? DEBTOR : DUE];
    }

    public int worst(int contract) {
        if (!isWithin(contract, 0, contracts.size - 1)) return BAD;
        settle();
        int[] row = contracts.rows[contract];
        return Math.abs(paidBy(row, row[MADE]) - paidBy(row, row[DUE]));
    }

    // ---- votes

    public int rest(int row) {
        if (!isWithin(row, 0, Ballot.ROWS - 1)) return BAD;
        settle();
        if (roll.parties == 0) return NOT;
        if (!ballot.isTold(row)) return BAD;
        return ballot.isRest(row) ? 1 : 0;
    }

    public int rests() {
        settle();
        return ballot.restfulRows();
    }

    public int wins(int party, int what) {
        settle();
        if (!isParty(party) || !isWithin(what, 0, 1)) return BAD;
        return what == 0 ? ballot.winningTicket(party) : ballot.winningUnlikeness(party);
    }

    public int hedge(int voter) {
        settle();
        if (!isOnRoll(voter)) return BAD;
        return ballot.evenHolding(voter);
    }

    // ---- ratios, towns, bills

    public long worth(int a, int b, int what) {
        if (!Worths.isKind(a) || !Worths.isKind(b) || a == b) return LEAST_LONG - BAD;
        if (!isWithin(what, 0, 1)) return LEAST_LONG - BAD;
        worths.firstClash(ratios);
        if (!worths.isTold(a, b)) return LEAST_LONG - NOT;
        return what == 0 ? worths.aboveOf(a, b) : worths.aboveOf(b, a);
    }

    public int clash() {
        return worths.firstClash(ratios);
    }

    public int drop() {
        return worths.fewestDropped(ratios);
    }

    public int rate(int from, int to, int above, int below) {
        if (!Towns.isTown(from) || !Towns.isTown(to) || from == to) return BAD;
        if (!isWithin(above, 1, FIGURES) || !isWithin(below, 1, FIGURES)) return BAD;
        return towns.replaceRate(from, to, above, below);
    }

    public int round(int i) {
        if (!isWithin(i, -2, Towns.TOWNS - 1)) return BAD;
        towns.findRound();
        if (i == -2) return towns.bestAbove;
        if (i == -1) return towns.bestBelow;
        return towns.bestTown(i);
    }

    public int bill(int much, int unit, int paid) {
        if (!isWithin(much, 1, FIGURES) || !isUnit(unit) || !isWithin(paid, 1, 99)) return BAD;
        if (bills.isFull()) return FULL;
        int[] row = bills.next();
        row[BILL_MUCH] = much;
        row[BILL_UNIT] = unit;
        row[BILL_PAID] = paid;
        return bills.size;
    }

    public int years() {
        settle();
        Poll poll = pollBy(law);
        int bits = ALL_YEARS;
        for (int i = 0; i < bills.size; i++) {
            int[] row = bills.rows[i];
            for (int year = 0; year < YEARS; year++) {
                int due = row[BILL_MUCH] * poll.greatness(year, row[BILL_UNIT]);
                if (due != row[BILL_PAID]) bits &= ~(1 << year);
            }
        }
        return bits;
    }

    // ---- sheets

    public int sheet(int s, int form, int n) {
        if (!Sheets.isSheet(s) || !Sheets.isForm(form) || n > Sheets.MOST_ITEMS) return BAD;
        if (n < 0) return find(SIZE);
        sheets.begin(s, form, n);
        return n;
    }

    public int lose(int s) {
        if (!Sheets.isSheet(s)) return BAD;
        if (sheets.isLost(s)) return find(NULL);
        int had = sheets.sizes[s];
        sheets.forget(s);
        return had;
    }

    public int lay(int s, int form, int i, int v) {
        if (!Sheets.isSheet(s) || !Sheets.isForm(form)) return BAD;
        int wrong = sheets.accessFinding(s, form, i);
        if (wrong != 0) return find(wrong);
        sheets.store(s, i, v);
        return 1;
    }

    public int get(int s, int form, int i) {
        if (!Sheets.isSheet(s) || !Sheets.isForm(form)) return LEAST_INT;
        int wrong = sheets.accessFinding(s, form, i);
        if (wrong == 0) return sheets.items[s][i];
        find(wrong);
        return LEAST_INT;
    }

    public int copy(int s, int i, int t, int j, int n) {
        if (!Sheets.isSheet(s) || !Sheets.isSheet(t)) return BAD;
        if (sheets.isLost(s) || sheets.isLost(t)) return find(NULL);
        if (sheets.forms[s] != sheets.forms[t]) return find(STORE);
        if (!sheets.hasItems(s, i, n) || !sheets.hasItems(t, j, n)) return find(INDEX);
        System.arraycopy(sheets.items[s], i, sheets.items[t], j, n);
        return 1;
    }

    public int read(int s) {
        if (!Sheets.isSheet(s)) return BAD;
        if (sheets.isLost(s)) return find(NULL);
        int most = Math.min(sheets.sizes[s], MOST_VOTERS);
        for (int i = 0; i < most; i++) {
            int v = sheets.items[s][i];
            if (!isWithin(v, 0, MOST_PURSE)) return i;
            purses[i] = v;
        }
        return most;
    }

    public int write(int year, int s) {
        if (!isYear(year) || !Sheets.isSheet(s)) return BAD;
        if (sheets.isLost(s)) return find(NULL);
        settle();
        int most = Math.min(sheets.sizes[s], MOST_VOTERS);
        for (int i = 0; i < most; i++) sheets.store(s, i, moneyBehind(i, year));
        return most;
    }

    public int count(int what) {
        switch (what) {
            case 0: return tickets.items();
            case 1: return voters.items();
            case 2: return ratios.items();
            case 3: return changes.size;
            case 4: return contracts.size;
            case 5: return bills.size;
            case 6: return law;
            case 7: return day;
            case 8: return finding;
            default: return BAD;
        }
    }

    public long digest() {
        settle();
        long h = 17;
        for (int what = 0; what <= 7; what++) h = mix(h, count(what));
        for (int text = TICKETS; text <= RATIOS; text++) h = mix(h, fault(text));
        h = mixYears(h);
        h = mixPeople(h);
        h = mixVotes(h);
        h = mixRatios(h);
        for (int i = -2; i <= 2; i++) h = mix(h, round(i));
        return mix(h, years());
    }

    private long mixYears(long start) {
        long h = start;
        for (int year : DIGEST_YEARS) {
            for (int unit = 0; unit < UNITS; unit++) {
                h = mix(h, elected(year, unit));
                h = mix(h, great(year, unit));
                for (int party = 0; party < roll.parties; party++) {
                    h = mix(h, ticket(year, party, unit));
                    h = mix(h, votes(year, unit, party));
                }
            }
        }
        return mix(h, split());
    }

    private long mixPeople(long start) {
        long h = start;
        for (int person = 0; person < MOST_VOTERS; person++) {
            h = mix(h, money(person, YEARS - 1));
            h = mix(h, hedge(person));
        }
        h = mix(h, ruined(0));
        h = mix(h, ruined(1));
        for (int i = 0; i < contracts.size; i++) h = mix(h, worst(i));
        return h;
    }

    private long mixVotes(long start) {
        long h = mix(start, rest(0));
        h = mix(h, rests());
        for (int party = 0; party < roll.parties; party++) {
            h = mix(h, wins(party, 0));
            h = mix(h, wins(party, 1));
        }
        return h;
    }

    private long mixRatios(long start) {
        long h = start;
        for (int b = 1; b < Worths.KINDS; b++) {
            h = mix(h, worth(0, b, 0));
            h = mix(h, worth(0, b, 1));
        }
        h = mix(h, clash());
        return mix(h, drop());
    }

    private static long mix(long h, long more) {
        return 31 * h + more;
    }

    private static boolean isWithin(int v, int least, int most) {
        return v >= least && v <= most;
    }

    private static boolean isText(int text) {
        return isWithin(text, TICKETS, RATIOS);
    }

    private static boolean isYear(int year) {
        return isWithin(year, 0, YEARS - 1);
    }

    private static boolean isUnit(int unit) {
        return isWithin(unit, 0, UNITS - 1);
    }

    /** PURSES and CONTRACTS are there for all who may be VOTERS, in the text or not. */
    private static boolean isPerson(int voter) {
        return isWithin(voter, 0, MOST_VOTERS - 1);
    }

    /** Asks the roll, so it must be settled. */
    private boolean isParty(int party) {
        return isWithin(party, 0, roll.parties - 1);
    }

    /** Asks the roll, so it must be settled. */
    private boolean isOnRoll(int voter) {
        return isWithin(voter, 0, roll.voters - 1);
    }

    private Text textOf(int text) {
        return text == TICKETS ? tickets : text == VOTERS ? voters : ratios;
    }

    private int find(int number) {
        finding = number;
        return -10 - number;
    }

    /**
     * Brings the roll, and the poll by the LAW, up to the texts and CHANGES. Calls that look at
     * them ask for it; those that change a text do not, as many bytes come between two looks.
     */
    private void settle() {
        if (stale) {
            stale = false;
            roll.take(tickets, voters, changes);
        }
        pollBy(law).update();
    }

    private Poll pollBy(int someLaw) {
        return someLaw == WHOLE_TICKET ? wholePoll
                : someLaw == UNIT_BY_UNIT ? unitPoll : approvalPoll;
    }

    private int paidBy(int[] contract, int year) {
        return contract[AMOUNT] * pollBy(law).greatness(year, contract[IN_UNIT]);
    }

    private int paid(int[] contract) {
        return paidBy(contract, contract[day == 0 ? MADE : DUE]);
    }

    private int moneyBehind(int person, int year) {
        int sum = purses[person];
        for (int i = 0; i < contracts.size; i++) {
            int[] row = contracts.rows[i];
            if (row[DUE] > year) continue;
            if (row[DEBTOR] == person) sum -= paid(row);
            if (row[CREDITOR] == person) sum += paid(row);
        }
        return sum;
    }

    /** The first CONTRACT behind which somebody has less than none: only who pays it can. */
    private int firstRuin() {
        System.arraycopy(purses, 0, held, 0, MOST_VOTERS);
        for (int year = 0; year < YEARS; year++) {
            for (int i = 0; i < contracts.size; i++) {
                int[] row = contracts.rows[i];
                if (row[DUE] != year) continue;
                int paid = paid(row);
                held[row[DEBTOR]] -= paid;
                held[row[CREDITOR]] += paid;
                if (held[row[DEBTOR]] < 0) return i;
            }
        }
        return NONE;
    }

    /** The place of the greatest of n items; of like ones the old one, else the least; of no items old. */
    private static int greatest(int[] row, int start, int n, int old) {
        int best = old;
        for (int i = 0; i < n; i++) {
            if (best == NONE || row[start + i] > row[start + best]) best = i;
        }
        return best;
    }

    /** The greatest number that divides both, which are above 0; the bound is far above what longs need. */
    private static long commonDivisor(long a, long b) {
        long high = a;
        long low = b;
        for (int i = 0; i < 200 && low != 0; i++) {
            long left = high % low;
            high = low;
            low = left;
        }
        return high < 1 ? 1 : high;
    }

    /**
     * A text of items of three bytes with ; between them. It holds just as many bytes as
     * the most items need, so that one item too many cannot be begun.
     */
    private static final class Text {
        final int kind;
        final int[] bytes;
        int size;

        Text(int kind, int mostItems) {
            this.kind = kind;
            this.bytes = new int[4 * mostItems - 1];
        }

        boolean isFull() {
            return size >= bytes.length;
        }

        void append(int b) {
            if (isFull()) return;
            bytes[size] = b;
            size++;
        }

        int faultPlace() {
            for (int place = 0; place < size; place++) {
                if (!fits(place)) return place;
            }
            return size == 0 || size % 4 == 3 ? NONE : size;
        }

        int items() {
            return faultPlace() == NONE ? (size + 1) / 4 : 0;
        }

        int byteOf(int item, int part) {
            return bytes[4 * item + part];
        }

        private boolean fits(int place) {
            int b = bytes[place];
            int part = place % 4;
            if (part == 3) return b == ';';
            if (part == 2 || kind == TICKETS) return b >= '1' && b <= '9';
            if (kind == VOTERS) return part == 0 ? b >= 'a' && b <= 'c' : b == '+' || b == '-';
            return b >= 'a' && b <= 'f' && (part == 0 || b != bytes[place - 1]);
        }
    }

    /** A list of rows of numbers that is undone from its end. */
    private static final class Rows {
        final int[][] rows;
        int size;

        Rows(int most, int width) {
            this.rows = new int[most][width];
        }

        boolean isFull() {
            return size >= rows.length;
        }

        /** One row more, to be filled by the caller, who has asked isFull(). */
        int[] next() {
            int[] row = rows[size];
            size++;
            return row;
        }
    }

    /** PARTIES with their tickets YEAR by YEAR, and VOTERS, as the texts and CHANGES tell. */
    private static final class Roll {
        int parties;
        int voters;
        /** Grows with each change, so that what is drawn from the roll knows when it is old. */
        int version;
        private final int[][] figures = new int[YEARS][MOST_PARTIES * UNITS];
        private final int[] unitsOfVoters = new int[MOST_VOTERS];
        private final int[] owedToVoters = new int[MOST_VOTERS];

        void take(Text ticketText, Text voterText, Rows changes) {
            version++;
            parties = ticketText.items();
            voters = voterText.items();
            for (int v = 0; v < voters; v++) {
                unitsOfVoters[v] = voterText.byteOf(v, 0) - 'a';
                int much = voterText.byteOf(v, 2) - '0';
                owedToVoters[v] = voterText.byteOf(v, 1) == '+' ? much : -much;
            }
            for (int year = 0; year < YEARS; year++) {
                carry(year, ticketText);
                alter(year, changes);
            }
        }

        private void carry(int year, Text ticketText) {
            for (int party = 0; party < parties; party++) {
                for (int unit = 0; unit < UNITS; unit++) {
                    figures[year][party * UNITS + unit] = year == 0
                            ? ticketText.byteOf(party, unit) - '0'
                            : figure(year - 1, party, unit);
                }
            }
        }

        private void alter(int year, Rows changes) {
            for (int i = 0; i < changes.size; i++) {
                int[] row = changes.rows[i];
                if (row[CHANGE_YEAR] != year) continue;
                figures[year][row[CHANGE_PARTY] * UNITS + row[CHANGE_UNIT]] = row[CHANGE_TO];
            }
        }

        int figure(int year, int party, int unit) {
            return figures[year][party * UNITS + unit];
        }

        int unitOf(int voter) {
            return unitsOfVoters[voter];
        }

        /** Less than none if the VOTER owes. */
        int owed(int voter) {
            return owedToVoters[voter];
        }

        int gain(int voter, int year, int party) {
            return owedToVoters[voter] * figures[year][party * UNITS + unitsOfVoters[voter]];
        }

        void fillGains(int voter, int year, int[] gains) {
            for (int party = 0; party < parties; party++) gains[party] = gain(voter, year, party);
        }
    }

    /** Who is elected YEAR by YEAR under one LAW. */
    private static final class Poll {
        private final Roll roll;
        private final int law;
        private final int[][] winners = new int[YEARS][UNITS];
        private final int[][] greats = new int[YEARS][UNITS];
        private final int[][] tallies = new int[YEARS][UNITS * MOST_PARTIES];
        private final int[] gains = new int[MOST_PARTIES];
        private int version;

        Poll(Roll roll, int law) {
            this.roll = roll;
            this.law = law;
        }

        int winner(int year, int unit) {
            return winners[year][unit];
        }

        int greatness(int year, int unit) {
            return greats[year][unit];
        }

        int tally(int year, int unit, int party) {
            return tallies[year][unit * MOST_PARTIES + party];
        }

        void update() {
            if (version == roll.version) return;
            version = roll.version;
            for (int year = 0; year < YEARS; year++) {
                for (int unit = 0; unit < UNITS; unit++) {
                    if (roll.parties == 0) leaveOpen(year, unit);
                    else if (unit == 0 || law == UNIT_BY_UNIT) hold(year, unit);
                    else repeatFirst(year, unit);
                }
            }
        }

        private void leaveOpen(int year, int unit) {
            winners[year][unit] = NONE;
            greats[year][unit] = 1;
        }

        private void hold(int year, int unit) {
            int old = year == 0 ? NONE : winners[year - 1][unit];
            int[] tally = tallies[year];
            int start = unit * MOST_PARTIES;
            for (int party = 0; party < MOST_PARTIES; party++) tally[start + party] = 0;
            for (int voter = 0; voter < roll.voters; voter++) {
                if (law == UNIT_BY_UNIT && roll.unitOf(voter) != unit) continue;
                roll.fillGains(voter, year, gains);
                if (law == APPROVAL) approve(tally, old);
                else tally[start + greatest(gains, 0, roll.parties, old)]++;
            }
            int winner = greatest(tally, start, roll.parties, old);
            winners[year][unit] = winner;
            greats[year][unit] = roll.figure(year, winner, unit);
        }

        private void approve(int[] tally, int old) {
            int sum = 0;
            for (int party = 0; party < roll.parties; party++) sum += gains[party];
            for (int party = 0; party < roll.parties; party++) {
                boolean fine = old == NONE
                        ? gains[party] * roll.parties >= sum
                        : gains[party] >= gains[old];
                if (fine) tally[party]++;
            }
        }

        /** One vote stands for all UNITS, but for the LAW of unit by unit. */
        private void repeatFirst(int year, int unit) {
            winners[year][unit] = winners[year][0];
            greats[year][unit] = roll.figure(year, winners[year][0], unit);
            System.arraycopy(tallies[year], 0, tallies[year], unit * MOST_PARTIES, MOST_PARTIES);
        }
    }

    /** YEAR 0 under LAW 0: what VOTERS and PARTIES could have done otherwise. */
    private static final class Ballot {
        static final int ROWS = 4096;
        private static final int MOST_PLAYERS = 6;

        private final Roll roll;
        private final int[] gains = new int[MOST_PARTIES];
        private final int[] tally = new int[MOST_PARTIES];
        private final int[] unspent = new int[MOST_PARTIES];
        private final int[][] playerGains = new int[MOST_PLAYERS][MOST_PARTIES];
        private final int[] contentBits = new int[MOST_PLAYERS];
        private final int[] support = new int[UNITS * FIGURES * MOST_PARTIES];
        private final int[] winVersions = new int[MOST_PARTIES];
        private final int[] winTickets = new int[MOST_PARTIES];
        private final int[] winUnlikeness = new int[MOST_PARTIES];
        /** How PARTIES are unlike the first: in each UNIT's figure, and in what a VOTER GAINS. */
        private final int[][] odds = new int[MOST_PARTIES][UNITS + 1];
        private int restVersion;
        private int restCount;

        Ballot(Roll roll) {
            this.roll = roll;
        }

        private int players() {
            return roll.voters < MOST_PLAYERS ? roll.voters : MOST_PLAYERS;
        }

        private static int toldParty(int row, int player) {
            return row >> (2 * player) & 3;
        }

        boolean isTold(int row) {
            int players = players();
            for (int player = 0; player < players; player++) {
                if (toldParty(row, player) >= roll.parties) return false;
            }
            return true;
        }

        boolean isRest(int row) {
            int players = players();
            prepare();
            for (int player = 0; player < players; player++) tally[toldParty(row, player)]++;
            for (int player = 0; player < players; player++) {
                if (!isContent(player, toldParty(row, player))) return false;
            }
            return true;
        }

        int restfulRows() {
            if (roll.parties == 0) return 0;
            if (restVersion != roll.version) {
                restVersion = roll.version;
                prepare();
                restCount = restsOfSpread(0, players());
            }
            return restCount;
        }

        /** Players' votes are told; the others vote as they do. */
        private void prepare() {
            Arrays.fill(tally, 0);
            for (int voter = 0; voter < roll.voters; voter++) {
                if (voter < MOST_PLAYERS) {
                    roll.fillGains(voter, 0, playerGains[voter]);
                } else {
                    roll.fillGains(voter, 0, gains);
                    tally[greatest(gains, 0, roll.parties, NONE)]++;
                }
            }
        }

        /** The tally holds the player's vote for the PARTY. */
        private boolean isContent(int player, int party) {
            int[] mine = playerGains[player];
            int now = mine[greatest(tally, 0, roll.parties, NONE)];
            boolean content = true;
            tally[party]--;
            for (int other = 0; other < roll.parties && content; other++) {
                tally[other]++;
                content = mine[greatest(tally, 0, roll.parties, NONE)] <= now;
                tally[other]--;
            }
            tally[party]++;
            return content;
        }

        /**
         * Who would rather have voted otherwise hangs on the sums of votes alone, of which there
         * are far fewer than rows: so the sums are gone through, and rows counted for each.
         */
        private int restsOfSpread(int party, int left) {
            if (party >= roll.parties) return left == 0 ? restsOfSums() : 0;
            int sum = 0;
            for (int share = 0; share <= left; share++) {
                tally[party] += share;
                unspent[party] = share;
                sum += restsOfSpread(party + 1, left - share);
                tally[party] -= share;
            }
            return sum;
        }

        private int restsOfSums() {
            int players = players();
            for (int player = 0; player < players; player++) {
                int bits = 0;
                for (int party = 0; party < roll.parties; party++) {
                    if (unspent[party] > 0 && isContent(player, party)) bits |= 1 << party;
                }
                contentBits[player] = bits;
            }
            return rowsFrom(0);
        }

        /** In how many ways the players from this one on can share the unspent votes, all content. */
        private int rowsFrom(int player) {
            if (player >= players()) return 1;
            int sum = 0;
            for (int party = 0; party < roll.parties; party++) {
                if (unspent[party] == 0 || (contentBits[player] >> party & 1) == 0) continue;
                unspent[party]--;
                sum += rowsFrom(player + 1);
                unspent[party]++;
            }
            return sum;
        }

        int winningTicket(int party) {
            findWin(party);
            return winTickets[party];
        }

        int winningUnlikeness(int party) {
            findWin(party);
            return winUnlikeness[party];
        }

        private void findWin(int party) {
            if (winVersions[party] == roll.version) return;
            winVersions[party] = roll.version;
            winTickets[party] = NONE;
            winUnlikeness[party] = NONE;
            fillSupport(party);
            for (int a = 1; a <= FIGURES; a++) {
                for (int b = 1; b <= FIGURES; b++) {
                    for (int c = 1; c <= FIGURES; c++) tryTicket(party, a, b, c);
                }
            }
        }

        /** A VOTER looks at its own UNIT alone: so votes are counted once for each UNIT and figure. */
        private void fillSupport(int party) {
            Arrays.fill(support, 0);
            for (int voter = 0; voter < roll.voters; voter++) {
                roll.fillGains(voter, 0, gains);
                for (int figure = 1; figure <= FIGURES; figure++) {
                    gains[party] = roll.owed(voter) * figure;
                    int start = supportPlace(roll.unitOf(voter), figure);
                    support[start + greatest(gains, 0, roll.parties, NONE)]++;
                }
            }
        }

        private static int supportPlace(int unit, int figure) {
            return (unit * FIGURES + figure - 1) * MOST_PARTIES;
        }

        /** Tickets come from the least on: a later one has to be less unlike. */
        private void tryTicket(int party, int a, int b, int c) {
            int unlikeness = Math.abs(a - roll.figure(0, party, 0))
                    + Math.abs(b - roll.figure(0, party, 1))
                    + Math.abs(c - roll.figure(0, party, 2));
            if (winTickets[party] != NONE && unlikeness >= winUnlikeness[party]) return;
            for (int p = 0; p < roll.parties; p++) {
                tally[p] = support[supportPlace(0, a) + p]
                        + support[supportPlace(1, b) + p]
                        + support[supportPlace(2, c) + p];
            }
            if (greatest(tally, 0, roll.parties, NONE) != party) return;
            winTickets[party] = 100 * a + 10 * b + c;
            winUnlikeness[party] = unlikeness;
        }

        /** Rows come from the least on: a later one has to be less together. */
        int evenHolding(int voter) {
            int best = NONE;
            int bestSum = 0;
            fillOdds(voter);
            for (int a = 0; a <= 9; a++) {
                for (int b = 0; b <= 9; b++) {
                    for (int c = 0; c <= 9; c++) {
                        int sum = a + b + c;
                        if (best != NONE && sum >= bestSum) break;
                        if (!isEven(a, b, c)) continue;
                        best = 100 * a + 10 * b + c;
                        bestSum = sum;
                    }
                }
            }
            return best;
        }

        private void fillOdds(int voter) {
            for (int party = 1; party < roll.parties; party++) {
                for (int unit = 0; unit < UNITS; unit++) {
                    odds[party][unit] = roll.figure(0, party, unit) - roll.figure(0, 0, unit);
                }
                odds[party][UNITS] = roll.gain(voter, 0, party) - roll.gain(voter, 0, 0);
            }
        }

        private boolean isEven(int a, int b, int c) {
            for (int party = 1; party < roll.parties; party++) {
                int[] row = odds[party];
                if (a * row[0] + b * row[1] + c * row[2] + row[UNITS] != 0) return false;
            }
            return true;
        }
    }

    /**
     * What a to f are worth. Each is held as so many of its group's own measure; who are in one
     * group can be told in one another. A group has six at most, so no part is above 9^5.
     */
    private static final class Worths {
        static final int KINDS = 6, MOST_RATIOS = 8;

        private final int[] groups = new int[KINDS];
        private final long[] above = new long[KINDS];
        private final long[] below = new long[KINDS];

        static boolean isKind(int kind) {
            return isWithin(kind, 0, KINDS - 1);
        }

        /** Takes the RATIOS one by one, but for those that CLASH; tells the first of these. */
        int firstClash(Text ratioText) {
            int first = NONE;
            int n = ratioText.items();
            startAnew();
            for (int ratio = 0; ratio < n; ratio++) {
                if (!takes(ratioText, ratio) && first == NONE) first = ratio;
            }
            return first;
        }

        int fewestDropped(Text ratioText) {
            int n = ratioText.items();
            int best = (1 << n) - 1;
            for (int bits = 0; bits < 1 << n; bits++) {
                if (Integer.bitCount(bits) >= Integer.bitCount(best)) continue;
                if (agreesWithout(ratioText, n, bits)) best = bits;
            }
            return best;
        }

        private boolean agreesWithout(Text ratioText, int n, int dropped) {
            startAnew();
            for (int ratio = 0; ratio < n; ratio++) {
                if ((dropped >> ratio & 1) == 0 && !takes(ratioText, ratio)) return false;
            }
            return true;
        }

        private void startAnew() {
            for (int kind = 0; kind < KINDS; kind++) {
                groups[kind] = kind;
                above[kind] = 1;
                below[kind] = 1;
            }
        }

        /** False, and nothing done, if the RATIO tells otherwise than those that were taken. */
        private boolean takes(Text ratioText, int ratio) {
            int a = ratioText.byteOf(ratio, 0) - 'a';
            int b = ratioText.byteOf(ratio, 1) - 'a';
            long times = ratioText.byteOf(ratio, 2) - '0';
            if (isTold(a, b)) return above[a] * below[b] == times * above[b] * below[a];
            join(a, b, times);
            return true;
        }

        private void join(int a, int b, long times) {
            int group = groups[a];
            long moreAbove = times * above[b] * below[a];
            long moreBelow = below[b] * above[a];
            for (int kind = 0; kind < KINDS; kind++) {
                if (groups[kind] != group) continue;
                groups[kind] = groups[b];
                long up = above[kind] * moreAbove;
                long down = below[kind] * moreBelow;
                long common = commonDivisor(up, down);
                above[kind] = up / common;
                below[kind] = down / common;
            }
        }

        boolean isTold(int a, int b) {
            return groups[a] == groups[b];
        }

        /** The upper part of what a is worth in b; its lower part is the upper one of b in a. */
        long aboveOf(int a, int b) {
            long up = above[a] * below[b];
            long down = below[a] * above[b];
            return up / commonDivisor(up, down);
        }
    }

    /** RATES between TOWNS, and the ROUND that gains most. */
    private static final class Towns {
        static final int TOWNS = 4;

        int bestAbove = 1;
        int bestBelow = 1;
        private int bestLength;
        private final int[] best = new int[TOWNS];
        private final int[] way = new int[TOWNS];
        private final int[] above = new int[TOWNS * TOWNS];
        private final int[] below = new int[TOWNS * TOWNS];

        Towns() {
            Arrays.fill(above, 1);
            Arrays.fill(below, 1);
        }

        static boolean isTown(int town) {
            return isWithin(town, 0, TOWNS - 1);
        }

        /** 10 times what it was above, and what it was below. */
        int replaceRate(int from, int to, int newAbove, int newBelow) {
            int place = from * TOWNS + to;
            int was = 10 * above[place] + below[place];
            above[place] = newAbove;
            below[place] = newBelow;
            return was;
        }

        int bestTown(int i) {
            return i < bestLength ? best[i] : NONE;
        }

        /** Short ways first, then the least: a later one has to gain more. */
        void findRound() {
            bestAbove = 1;
            bestBelow = 1;
            bestLength = 0;
            for (int length = 2; length <= TOWNS; length++) {
                for (int first = 0; first < TOWNS; first++) {
                    way[0] = first;
                    goOn(1, length, 1, 1);
                }
            }
            int common = (int) commonDivisor(bestAbove, bestBelow);
            bestAbove /= common;
            bestBelow /= common;
        }

        private void goOn(int done, int length, int up, int down) {
            int from = way[done - 1] * TOWNS;
            if (done >= length) {
                comeBack(length, up * above[from + way[0]], down * below[from + way[0]]);
                return;
            }
            for (int town = way[0] + 1; town < TOWNS; town++) {
                if (isOnWay(town, done)) continue;
                way[done] = town;
                goOn(done + 1, length, up * above[from + town], down * below[from + town]);
            }
        }

        private boolean isOnWay(int town, int done) {
            for (int i = 0; i < done; i++) {
                if (way[i] == town) return true;
            }
            return false;
        }

        private void comeBack(int length, int up, int down) {
            if (up * bestBelow <= bestAbove * down) return;
            bestAbove = up;
            bestBelow = down;
            bestLength = length;
            System.arraycopy(way, 0, best, 0, length);
        }
    }

    /** SHEETS; their items stand as ints, cut to what their FORM holds when they are laid. */
    private static final class Sheets {
        static final int SHEETS = 4, MOST_ITEMS = 60;
        private static final int LOST = -1, BYTES = 0, SHORTS = 1, INTS = 2;

        final int[] forms = new int[SHEETS];
        final int[] sizes = new int[SHEETS];
        final int[][] items = new int[SHEETS][MOST_ITEMS];

        Sheets() {
            Arrays.fill(forms, LOST);
        }

        static boolean isSheet(int s) {
            return isWithin(s, 0, SHEETS - 1);
        }

        static boolean isForm(int form) {
            return isWithin(form, BYTES, INTS);
        }

        boolean isLost(int s) {
            return forms[s] == LOST;
        }

        void begin(int s, int form, int n) {
            forms[s] = form;
            sizes[s] = n;
            Arrays.fill(items[s], 0);
        }

        void forget(int s) {
            forms[s] = LOST;
            sizes[s] = 0;
        }

        /** What forbids item i of a SHEET treated as of a FORM; 0: nothing. */
        int accessFinding(int s, int form, int i) {
            if (isLost(s)) return NULL;
            if (forms[s] != form) return CAST;
            return isWithin(i, 0, sizes[s] - 1) ? 0 : INDEX;
        }

        /** n is compared with what is left behind i: a sum of the two could wrap. */
        boolean hasItems(int s, int i, int n) {
            return i >= 0 && n >= 0 && n <= sizes[s] - i;
        }

        void store(int s, int i, int v) {
            items[s][i] = forms[s] == BYTES ? (byte) v : forms[s] == SHORTS ? (short) v : v;
        }
    }
}

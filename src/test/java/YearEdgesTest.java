/** Edges that the document names for votes by YEARS, CONTRACTS and MONEY: a method for each sentence or part of one. */
public final class YearEdgesTest extends Checks {
    private static PoundVotes byLaw(int law, String tickets, String voters) {
        PoundVotes x = with(tickets, voters);
        x.set(0, law);
        return x;
    }

    private static void votesAre(PoundVotes x, int year, int unit, int... want) {
        for (int p = 0; p < want.length; p++) due("votes in " + year + " of party " + p, x.votes(year, unit, p), want[p]);
    }

    private static void gains() {
        says("GAIN of a VOTER by a PARTY: how much times how great its UNIT is to be; less than none (so much), if it owes.");
        due("who is owed is for heavy ones", with("111;911", "a+1").elected(0, 0), 1);
        due("who owes is for light ones", with("911;111", "a-1").elected(0, 0), 1);
        due("other units are all one", with("199;911", "a+9").elected(0, 0), 1);
        // b-2 by 5 and 2: -10 and -4; three b more are 15 and 6 more: no; two are 10 and 4.
        due("how much", with("151;121", "b-2").hedge(0), 20);
    }

    private static void oneVote() {
        says("0: each has one vote, for the PARTY by which it GAINS most, of like ones the old one "
                + "(elected the YEAR ahead), else the least;");
        PoundVotes x = with("111;222;222", "a+1");
        due("of like ones the least", x.elected(0, 0), 1);
        votesAre(x, 0, 0, 0, 1, 0);
        x.change(1, 2, 0, 9);
        x.change(2, 1, 0, 9);
        due("the only one", x.elected(1, 0), 2);
        due("of like ones the old one", x.elected(2, 0), 2);
        votesAre(x, 2, 0, 0, 0, 1);
        due("and so on", x.elected(9, 0), 2);
        x = with("911;511;511", "a+1");
        x.change(1, 0, 0, 1);
        due("the old one", x.elected(0, 0), 0);
        votesAre(x, 1, 0, 0, 1, 0);
        due("the least, as the old one is not among them", x.elected(1, 0), 1);
    }

    private static void mostVotes() {
        says("who has most votes is elected, of like ones the old one, else the least: its whole ticket.");
        PoundVotes x = with("192;913", "a+1;b+1");
        votesAre(x, 0, 0, 1, 1);
        due("the least", x.elected(0, 0), 0);
        due("whole ticket", x.great(0, 2), 2);
        x = with("119;991", "a+1;b+1");
        x.change(1, 1, 1, 1);
        x.change(1, 0, 1, 2);
        due("all of them", x.elected(0, 0), 1);
        votesAre(x, 1, 0, 1, 1);
        due("the old one", x.elected(1, 0), 1);
        due("whole ticket", x.great(1, 1), 1);
        due("whole ticket", x.great(1, 2), 1);
        x = with("111;111;222", "a+1;a+1;b+1;b+1");
        x.change(1, 0, 0, 9);
        x.change(1, 1, 1, 9);
        votesAre(x, 0, 0, 0, 0, 4);
        votesAre(x, 1, 0, 2, 2, 0);
        due("the least, as the old one is not among them", x.elected(1, 0), 0);
        x = with("123;456", "");
        votesAre(x, 0, 0, 0, 0);
        due("nobody votes: the least", x.elected(9, 0), 0);
    }

    private static void unitByUnit() {
        says("1: so for each UNIT by itself: only VOTERS of that UNIT vote, "
                + "the elected one's greatness of that UNIT is taken (old ones by UNITS).");
        PoundVotes x = byLaw(1, "123;999", "a+1;a-2;a+3");
        votesAre(x, 0, 0, 1, 2);
        votesAre(x, 0, 1, 0, 0);
        due("unit a", x.great(0, 0), 9);
        due("nobody votes: the least", x.elected(9, 1), 0);
        due("nobody votes: the least", x.great(9, 2), 3);
        x = byLaw(1, "911;191", "a+1;b+1");
        x.change(1, 1, 0, 9);
        x.change(1, 0, 1, 9);
        due("the old one of a", x.elected(1, 0), 0);
        due("the old one of b", x.elected(1, 1), 1);
        due("of c", x.elected(1, 2), 0);
        votesAre(x, 1, 1, 0, 1);
    }

    private static void asMuchAsByTheOld() {
        says("2: each votes for all PARTIES by which it GAINS as much as by the old one, or more");
        PoundVotes x = byLaw(2, "511;511;411", "a+1");
        x.change(2, 2, 0, 5);
        x.change(3, 2, 0, 6);
        x.change(4, 2, 0, 1);
        due("the old one", x.elected(0, 0), 0);
        votesAre(x, 1, 0, 1, 1, 0);
        votesAre(x, 2, 0, 1, 1, 1);
        votesAre(x, 3, 0, 1, 1, 1);
        votesAre(x, 4, 0, 1, 1, 0);
        due("the old one has all votes", x.elected(3, 0), 0);
        x = byLaw(2, "511;411;611", "a-1");
        x.change(1, 2, 0, 5);
        due("the old one", x.elected(0, 0), 0);
        votesAre(x, 1, 0, 1, 1, 1);
        votesAre(x, 0, 0, 1, 1, 0);
    }

    private static void noWorseThanTheMean() {
        says("(in YEAR 0: that are no worse than the mean of all PARTIES); then as 0.");
        votesAre(byLaw(2, "111;211;311", "a+1"), 0, 0, 0, 1, 1);
        votesAre(byLaw(2, "111;211;311", "a-1"), 0, 0, 1, 1, 0);
        votesAre(byLaw(2, "111;111;211", "a+1"), 0, 0, 0, 0, 1);
        votesAre(byLaw(2, "111;211;211", "a+1"), 0, 0, 0, 1, 1);
        votesAre(byLaw(2, "111;111;211", "a-1"), 0, 0, 1, 1, 0);
        votesAre(byLaw(2, "111;211;211", "a-1"), 0, 0, 1, 0, 0);
        votesAre(byLaw(2, "777;777;777;777", EIGHT_VOTERS), 0, 2, 8, 8, 8, 8);
        votesAre(byLaw(2, "123", "a+1"), 0, 0, 1);
        due("then of like ones the least", byLaw(2, "111;211;311", "a+1").elected(0, 0), 1);
        due("then the most", byLaw(2, "111;211;311", "a+1;a-1").elected(0, 0), 1);
    }

    private static void noOldOneAtFirst() {
        says("Ahead of YEAR 0 there is no old one.");
        for (int law = 0; law < 3; law++) {
            PoundVotes x = byLaw(law, "444;444;444", "a+1;b-1;c+1");
            for (int unit = 0; unit < 3; unit++) due("the least by law " + law, x.elected(0, unit), 0);
        }
        PoundVotes x = with("111;911", "a+1");
        due("elected", x.elected(9, 0), 1);
        x.change(0, 1, 0, 1);
        due("what was elected earlier does not last", x.elected(0, 0), 0);
    }

    private static void withoutParties() {
        says("Without PARTIES all UNITS are 1.");
        for (int law = 0; law < 3; law++) {
            PoundVotes x = byLaw(law, "", "a+1");
            x.change(0, 0, 0, 9);
            for (int unit = 0; unit < 3; unit++) {
                due("the first year", x.great(0, unit), 1);
                due("the last year", x.great(9, unit), 1);
            }
            x.contract(0, 1, 99, 0, 0, 9);
            due("money", x.money(1, 9), 199);
            due("worst", x.worst(0), 0);
            x.bill(7, 0, 7);
            due("years", x.years(), 1023);
        }
    }

    private static void mostContracts() {
        says("CONTRACTS, 8 at most (0 on):");
        PoundVotes x = new PoundVotes();
        due("there is none", x.worst(0), BAD);
        for (int n = 1; n <= 8; n++) due("one more", x.contract(0, 1, n, 0, 0, 1), n);
        due("no ninth", x.contract(0, 1, 50, 0, 0, 1), FULL);
        due("eight", x.count(4), 8);
        due("all of them are paid", x.money(1, 1), 136);
        due("the eighth", x.worst(7), 0);
        due("no ninth", x.worst(8), BAD);
        due("room again", x.back(1), 7);
        due("no eighth", x.worst(7), BAD);
        due("one more", x.contract(0, 1, 9, 0, 0, 1), 8);
        due("in its place", x.money(1, 1), 137);
    }

    private static void contractNumbers() {
        says("a VOTER (0 to 7) owes another one so much (1 to 99) in a UNIT, made in a YEAR, due in a later one;");
        PoundVotes x = new PoundVotes();
        due("the least", x.contract(0, 7, 1, 0, 0, 1), 1);
        due("the greatest", x.contract(7, 0, 99, 2, 8, 9), 2);
        for (int v : new int[] {-1, 8, LEAST, MOST}) {
            due("who owes", x.contract(v, 0, 1, 0, 0, 1), BAD);
            due("who is owed", x.contract(0, v, 1, 0, 0, 1), BAD);
        }
        for (int v = 0; v < 8; v++) due("another one", x.contract(v, v, 1, 0, 0, 1), BAD);
        for (int much : new int[] {0, 100, -1, LEAST, MOST}) due("much", x.contract(0, 1, much, 0, 0, 1), BAD);
        for (int year = 0; year < 10; year++) due("the same year", x.contract(0, 1, 1, 0, year, year), BAD);
        due("an earlier year", x.contract(0, 1, 1, 0, 9, 8), BAD);
        due("two", x.count(4), 2);
        due("money moves", x.money(0, 9), 100 - 1 + 99);
        due("money moves", x.money(7, 9), 100 + 1 - 99);
    }

    private static void whichDay() {
        says("it is paid by the UNIT of the YEAR in which it was made (0), is due (1).");
        PoundVotes x = with("222", "a+1");
        x.change(3, 0, 1, 3);
        x.change(4, 0, 1, 4);
        x.change(7, 0, 1, 7);
        x.change(8, 0, 1, 8);
        x.contract(0, 1, 10, 1, 3, 7);
        due("by the year in which it was made", x.money(1, 7), 130);
        x.set(1, 1);
        due("by the year in which it is due", x.money(1, 7), 170);
        due("later years are all one", x.money(1, 9), 170);
        x.set(1, 0);
        due("and back", x.money(1, 9), 130);
    }

    private static void sameForAllUnits() {
        says("In a YEAR: who is elected for a UNIT (by LAWS 0 and 2 the same for all);");
        PoundVotes x = with("911;191;119", "a+1;b+2;b+3;c-4;b+1");
        for (int unit = 0; unit < 3; unit++) {
            x.set(0, 0);
            due("law 0", x.elected(0, unit), 1);
            x.set(0, 2);
            due("law 2", x.elected(0, unit), 1);
            x.set(0, 1);
            due("law 1", x.elected(0, unit), unit == 1 ? 1 : 0);
        }
    }

    private static void nobodyElected() {
        says("NONE: there are no PARTIES; how great the UNIT is;");
        for (int law = 0; law < 3; law++) {
            PoundVotes x = byLaw(law, "", "a+1");
            due("the first year", x.elected(0, 0), NONE);
            due("the last year", x.elected(9, 2), NONE);
            typed(x, 0, "345");
            due("one party", x.elected(0, 0), 0);
            due("its ticket", x.great(0, 2), 5);
            x.wipe(0);
            due("none again", x.elected(0, 0), NONE);
        }
    }

    private static void whoVotes() {
        says("for how many VOTERS (of those that vote for that UNIT) a PARTY was voted.");
        PoundVotes x = with("111;222", EIGHT_VOTERS);
        for (int unit = 0; unit < 3; unit++) votesAre(x, 0, unit, 0, 8);
        x.set(0, 1);
        votesAre(x, 9, 0, 0, 8);
        votesAre(x, 9, 1, 0, 0);
        x.set(0, 2);
        for (int unit = 0; unit < 3; unit++) votesAre(x, 0, unit, 0, 8);
    }

    private static void split() {
        says("SPLIT: the YEARS in which LAWS 0 and 1 make some UNIT unlike, as bits.");
        String voters = "a+1;b-1;b-1";
        PoundVotes x = with("111;111", voters);
        due("no year", x.split(), 0);
        x.change(9, 1, 0, 9);
        x.change(9, 1, 1, 9);
        due("the last year alone", x.split(), 512);
        x = with("111;991", voters);
        due("all years", x.split(), 1023);
        x.change(1, 1, 0, 1);
        due("the first year alone: later ones are as great", x.split(), 1);
        x.set(0, 1);
        due("though another one is elected", x.elected(1, 0), 1);
        due("whatever the law", x.split(), 1);
        x.set(0, 2);
        x.change(1, 1, 0, 7);
        due("right behind a change, whatever the law", x.split(), 1023);
        x.change(1, 0, 0, 7);
        due("right behind a change, whatever the law", x.split(), 1);
        x.set(0, 1);
        x.back(0);
        due("right behind its undoing", x.split(), 1023);
        due("the second unit alone", with("111;191", "b+1;a-1;c-1").split(), 1023);
        due("the third unit alone", with("111;119", "c+1;a-1;b-1").split(), 1023);
    }

    private static void moneyBehind() {
        says("MONEY of a VOTER (0 to 7) behind a YEAR: its PURSE, more and less by CONTRACTS that fell due by then, "
                + "by their order (it may be less than none).");
        PoundVotes x = with("999", "a+1");
        x.contract(0, 7, 99, 0, 0, 5);
        due("the year ahead", x.money(0, 4), 100);
        due("the year itself", x.money(0, 5), 100 - 891);
        due("the year itself", x.money(7, 5), 100 + 891);
        for (int n = 2; n <= 8; n++) x.contract(0, 7, 99, 0, 0, 9);
        x.purse(0, 0);
        x.purse(7, 999);
        due("the least", x.money(0, 9), -8 * 891);
        due("the greatest", x.money(7, 9), 999 + 8 * 891);
        due("others", x.money(3, 9), 100);
        due("the first of them is due", x.money(0, 8), -891);
    }

    private static void ruinedFirst() {
        says("RUINED: the first VOTER that has less than none right behind a CONTRACT, by YEARS, then by their order;");
        PoundVotes x = new PoundVotes();
        x.contract(6, 7, 50, 0, 0, 9);
        x.contract(6, 7, 50, 0, 0, 9);
        due("none left is no ruin", x.ruined(0), NONE);
        x.contract(6, 7, 1, 0, 0, 9);
        due("one less is", x.ruined(0), 6);
        due("in the last year", x.ruined(1), 9);
        x.contract(5, 4, 99, 0, 0, 1);
        x.contract(5, 4, 2, 0, 0, 1);
        due("an earlier year, though told later", x.ruined(0), 5);
        due("an earlier year", x.ruined(1), 1);
        x = new PoundVotes();
        x.purse(0, 0);
        x.purse(1, 0);
        x.contract(1, 2, 1, 0, 0, 3);
        x.contract(0, 2, 1, 0, 0, 3);
        due("by their order in a year, not by numbers", x.ruined(0), 1);
        x = new PoundVotes();
        x.purse(0, 0);
        x.contract(1, 0, 10, 0, 0, 3);
        x.contract(0, 2, 10, 0, 0, 3);
        due("what it is owed came ahead", x.ruined(0), NONE);
        x = new PoundVotes();
        x.purse(0, 0);
        x.contract(0, 2, 10, 0, 0, 3);
        x.contract(1, 0, 10, 0, 0, 3);
        due("right behind a contract, what comes later is all one", x.ruined(0), 0);
        due("behind the year it has none, not less", x.money(0, 3), 0);
    }

    private static void ruinedNobody() {
        says("NONE; the YEAR. WORST");
        PoundVotes x = new PoundVotes();
        due("no contracts", x.ruined(0), NONE);
        due("no contracts", x.ruined(1), NONE);
        x.purse(3, 0);
        due("an empty purse is no ruin", x.ruined(0), NONE);
        x.contract(3, 2, 1, 0, 0, 1);
        due("who", x.ruined(0), 3);
        due("the first year in which one can be due", x.ruined(1), 1);
        x.back(1);
        due("undone", x.ruined(1), NONE);
    }

    private static void worstOf() {
        says("WORST of a CONTRACT: how much more is paid by the one DAY than by the other one (the amount).");
        PoundVotes x = with("195", "a+1");
        x.change(5, 0, 0, 9);
        x.change(5, 0, 1, 1);
        x.contract(0, 1, 99, 0, 4, 5);
        x.contract(0, 1, 99, 1, 4, 5);
        x.contract(0, 1, 99, 2, 4, 5);
        x.contract(0, 1, 99, 0, 5, 6);
        for (int day = 0; day < 2; day++) {
            x.set(1, day);
            due("more on the due day", x.worst(0), 792);
            due("less on the due day: the amount", x.worst(1), 792);
            due("as much", x.worst(2), 0);
            due("as much behind the change", x.worst(3), 0);
        }
    }

    private static void elected() {
        says("Who is elected; NONE. BAD.");
        PoundVotes x = with("111;222", "a+1");
        due("who", x.elected(9, 2), 1);
        for (int bad : new int[] {-1, 10, LEAST, MOST}) {
            due("year", x.elected(bad, 0), BAD);
            due("unit", x.elected(0, bad), BAD);
            due("bad without parties, too", new PoundVotes().elected(bad, 0), BAD);
        }
    }

    private static void great() {
        says("How great a UNIT is. BAD.");
        PoundVotes x = with("111;229", "a+1");
        due("how great", x.great(9, 2), 9);
        for (int bad : new int[] {-1, 10, LEAST, MOST}) {
            due("year", x.great(bad, 0), BAD);
            due("unit", x.great(0, bad), BAD);
            due("bad without parties, too", new PoundVotes().great(0, bad), BAD);
        }
    }

    private static void votes() {
        says("Votes. BAD.");
        PoundVotes x = with("111;222", "a+1");
        due("votes", x.votes(9, 2, 1), 1);
        for (int bad : new int[] {-1, 10, LEAST, MOST}) {
            due("year", x.votes(bad, 0, 0), BAD);
            due("unit", x.votes(0, bad, 0), BAD);
            due("party", x.votes(0, 0, bad), BAD);
        }
        due("a party that there is not", x.votes(0, 0, 2), BAD);
        due("no parties", new PoundVotes().votes(0, 0, 0), BAD);
    }

    private static void splitBits() {
        says("SPLIT, as bits.");
        due("a new object", new PoundVotes().split(), 0);
        due("no voters", with("123;456", "").split(), 0);
        due("all bits", with("111;991", "a+1;b-1;b-1").split(), 1023);
    }

    private static void contract() {
        says("A CONTRACT more (VOTERS 0 to 7, unlike; the second YEAR is later): how many. BAD; FULL.");
        PoundVotes x = new PoundVotes();
        due("like ones", x.contract(7, 7, 1, 0, 0, 1), BAD);
        due("not later", x.contract(0, 7, 1, 0, 1, 1), BAD);
        for (int n = 1; n <= 8; n++) due("how many", x.contract(n % 8, 7 - n % 8, 1, 0, 0, 9), n);
        due("full", x.contract(0, 1, 1, 0, 0, 1), FULL);
        due("bad ahead of full: like ones", x.contract(1, 1, 1, 0, 0, 1), BAD);
        due("bad ahead of full: who", x.contract(8, 1, 1, 0, 0, 1), BAD);
        due("bad ahead of full: much", x.contract(0, 1, 100, 0, 0, 1), BAD);
        due("bad ahead of full: not later", x.contract(0, 1, 1, 0, 1, 0), BAD);
    }

    private static void money() {
        says("MONEY, as any number. BAD: -100002.");
        PoundVotes x = new PoundVotes();
        x.contract(0, 1, 99, 0, 0, 1);
        x.contract(0, 1, 3, 0, 0, 1);
        due("-2 is a number, and no refusal", x.money(0, 1), -2);
        x.back(1);
        x.contract(0, 1, 2, 0, 0, 1);
        due("-1 is a number", x.money(0, 1), -1);
        for (int v : new int[] {-1, 8, LEAST, MOST}) due("voter", x.money(v, 0), -100002);
        for (int year : new int[] {-1, 10, LEAST, MOST}) due("year", x.money(0, year), -100002);
    }

    private static void ruined() {
        says("RUINED: who (what = 0), the YEAR (1); NONE. BAD.");
        PoundVotes x = new PoundVotes();
        due("none", x.ruined(0), NONE);
        due("none", x.ruined(1), NONE);
        for (int what : new int[] {-1, 2, LEAST, MOST}) due("what", x.ruined(what), BAD);
        x.purse(7, 0);
        x.contract(7, 0, 1, 0, 0, 4);
        due("who", x.ruined(0), 7);
        due("the year", x.ruined(1), 4);
        for (int what : new int[] {-1, 2, LEAST, MOST}) due("what", x.ruined(what), BAD);
    }

    private static void worst() {
        says("WORST. BAD.");
        PoundVotes x = new PoundVotes();
        for (int c : new int[] {-1, 0, 8, LEAST, MOST}) due("there is none", x.worst(c), BAD);
        x.contract(0, 1, 1, 0, 0, 1);
        due("the only one", x.worst(0), 0);
        for (int c : new int[] {-1, 1, 8, LEAST, MOST}) due("no such", x.worst(c), BAD);
    }

    public static void main(String[] args) {
        gains();
        oneVote();
        mostVotes();
        unitByUnit();
        asMuchAsByTheOld();
        noWorseThanTheMean();
        noOldOneAtFirst();
        withoutParties();
        mostContracts();
        contractNumbers();
        whichDay();
        sameForAllUnits();
        nobodyElected();
        whoVotes();
        split();
        moneyBehind();
        ruinedFirst();
        ruinedNobody();
        worstOf();
        elected();
        great();
        votes();
        splitBits();
        contract();
        money();
        ruined();
        worst();
        end("all edges of years are kept");
    }
}

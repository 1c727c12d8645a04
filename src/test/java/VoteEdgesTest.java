/** Edges that the document names for REST, WINS and HEDGE: a method for each sentence or part of one. */
public final class VoteEdgesTest extends Checks {
    private static final String SIX_VOTERS = EIGHT_VOTERS.substring(0, 23);

    private static void rowOfVotes() {
        says("REST: votes told for the first six VOTERS at most, a PARTY each, as figures to the base 4 (VOTER 0 lowest),");
        PoundVotes x = with("111;999", "a+1;a-1");
        // Row 1: 0 is elected, and voter 0 alone cannot turn it. Row 4: 0 is elected, and voter 0 alone can.
        due("voter 0 is lowest", x.rest(1), 1);
        due("voter 1 is next", x.rest(4), 0);
        x = with("111;222;333;444", SIX_VOTERS);
        due("all for the last party", x.rest(4095), 1);
        due("all for the first one", x.rest(0), 1);
        due("voter 5 is highest", x.rest(3 * 1024), 1);
        due("three for 2, three for 3: one of the first three turns it", x.rest(2 + 8 + 32 + 3 * (64 + 256 + 1024)), 0);
    }

    private static void othersVoteAsTheyDo() {
        says("by LAW 0 in YEAR 0 (all others vote as they do):");
        // Voter 0 for 0, though it likes 1 better; four for 0 and two for 1 among the first six.
        int row = 256 + 1024;
        PoundVotes x = with("111;911", "a+1;b+1;b+1;b+1;b+1;b+1;a+1;a+1");
        due("both others are for 1: voter 0 alone turns it", x.rest(row), 0);
        x = with("111;911", "a+1;b+1;b+1;b+1;b+1;b+1;a+1");
        due("one other is for 1: it turns it, too", x.rest(row), 0);
        x = with("111;911", "a+1;b+1;b+1;b+1;b+1;b+1");
        due("no other: it does not", x.rest(row), 1);
        x = with("111;911", "a+1;b+1;b+1;b+1;b+1;b+1;a-1;a-1");
        due("both others are for 0: it does not", x.rest(row), 1);
        x = with("111;911", "a+1;b+1;b+1;b+1;b+1;b+1;b+1;b+1");
        due("of like ones others vote for the least", x.rest(row), 1);
        x = with("111;911", "a+1;b+1;b+1;b+1;b+1;b+1;a+1;a+1");
        for (int law = 0; law < 3; law++) {
            x.set(0, law);
            due("law 0, whatever the law is", x.rest(row), 0);
        }
        x.change(1, 1, 0, 1);
        due("later changes are all one", x.rest(row), 0);
        x.change(0, 1, 0, 1);
        due("changes of year 0 are not", x.rest(row), 1);
    }

    private static void noneWouldGainMore() {
        says("1, if none of these six would GAIN more, had it alone voted otherwise; else 0.");
        PoundVotes x = with("191;911", "c+1");
        due("as much is not more", x.rest(0), 1);
        due("as much is not more", x.rest(1), 1);
        x = with("111;211", "a+1");
        due("one alone has what it would", x.rest(1), 1);
        due("one alone would have more", x.rest(0), 0);
        x = with("211;111;111", "a+1");
        due("one alone has what it would", x.rest(0), 1);
        due("one alone would have more by the first party", x.rest(1), 0);
        due("one alone would have more by the first party", x.rest(2), 0);
        x = with("111;511;911", "b+1;b+1;b+1;b+1;b+1;b+1;a+1");
        due("the seventh would, but is not asked", x.rest(64 + 256 + 1024), 1);
        x = with("111;511;911", "a+1;b+1;b+1;b+1;b+1;b+1;b+1");
        due("the first would, for its second best", x.rest(2 + 64 + 256 + 1024), 0);
        x = with("111;511;911", "b+1;b+1;b+1;b+1;b+1;a+1;b+1");
        due("the sixth would, for its second best", x.rest(1 + 4 + 16 + 2 * 1024), 0);
    }

    private static void allRows() {
        says("RESTS: in how many of all such rows there is REST.");
        due("six voters, four like parties: all rows", with("111;111;111;111", SIX_VOTERS).rests(), 4096);
        due("eight voters: six are told", with("111;111;111;111", EIGHT_VOTERS).rests(), 4096);
        due("eight voters, three like parties", with("111;111;111", EIGHT_VOTERS).rests(), 729);
        due("one voter, four like parties", with("111;111;111;111", "a+1").rests(), 4);
        due("one party: one row", with("111", EIGHT_VOTERS).rests(), 1);
        due("one voter: its best alone", with("111;311;211", "a+1").rests(), 1);
        due("no voters: the one empty row", with("111;222", "").rests(), 1);
    }

    /** A new object for each 400 rows, as an object is good for 512 calls. */
    private static void rowsOneByOne(String tickets, String voters, int parties) {
        int sum = 0;
        PoundVotes x = null;
        for (int row = 0; row < 4096; row++) {
            if (row % 400 == 0) x = with(tickets, voters);
            boolean told = true;
            for (int v = 0; v < 6; v++) told &= (row >> 2 * v & 3) < parties;
            int rest = x.rest(row);
            if (!told) due("a party that there is not, row " + row, rest, BAD);
            else if (rest == 1) sum++;
            else due("rest or not, row " + row, rest, 0);
        }
        due("rows one by one", with(tickets, voters).rests(), sum);
    }

    private static void winsNearest() {
        says("WINS for a PARTY: the ticket in YEAR 0 (LAW 0) by which it is elected, "
                + "that is least unlike its own (amounts together),");
        PoundVotes x = with("555;555", "a+1;b-1");
        due("its own", x.wins(0, 0), 555);
        due("its own", x.wins(0, 1), 0);
        due("up in one and down in another", x.wins(1, 0), 645);
        due("amounts together", x.wins(1, 1), 2);
        for (int law = 1; law < 3; law++) {
            x.set(0, law);
            due("law 0, whatever the law is", x.wins(1, 0), 645);
        }
        for (int unit = 0; unit < 3; unit++) {
            x.change(1, 1, unit, 9);
            x.change(1, 0, unit, 2);
        }
        due("year 0 alone", x.wins(1, 0), 645);
        due("year 0 alone", x.wins(1, 1), 2);
        x.change(0, 1, 0, 9);
        due("its own in year 0", x.wins(1, 0), 945);
        due("its own in year 0", x.wins(1, 1), 1);
        due("to the greatest figure", with("888;111", "a+1;b+1;c+1").wins(1, 0), 199);
        due("how unlike", with("888;111", "a+1;b+1;c+1").wins(1, 1), 16);
        due("to the least figure", with("222;999", "a-1;b-1;c-1").wins(1, 0), 119);
        due("a vote that it has counts", with("888;111", "a+1;a+1;b+1;c-1").wins(1, 0), 911);
    }

    private static void winsTies() {
        says("of like ones the least (as three figures): the ticket; how unlike; NONE. HEDGE");
        PoundVotes x = with("555;655;565", "a+1;b+1");
        due("655 or 565", x.wins(0, 0), 565);
        due("how unlike", x.wins(0, 1), 1);
        due("no voters: its own", with("345;678", "").wins(0, 0), 345);
        due("no voters: none", with("345;678", "").wins(1, 0), NONE);
        due("no voters: none", with("345;678", "").wins(1, 1), NONE);
        due("one party: its own", with("345", "a-9").wins(0, 0), 345);
        due("a tie is the least party's", with("911;811", "a+1").wins(1, 0), NONE);
        due("a tie is the least party's", with("811;911", "a+1").wins(0, 0), 911);
        due("a debtor's tie is the least party's", with("111;211", "a-1").wins(1, 1), NONE);
    }

    private static void hedges() {
        says("HEDGE of a VOTER in YEAR 0: how much (0 to 9) it holds of each UNIT more, "
                + "so that what it has of all, GAIN and these, is alike by all PARTIES;");
        due("nine of the first", with("911;111", "a-9").hedge(0), 900);
        due("nine of the second", with("191;111", "b-9").hedge(0), 90);
        due("nine of the third", with("119;111", "c-9").hedge(0), 9);
        // By 1 instead of 0: a is 3 more, b 1 and c 2 less; 27 more are to be made good.
        due("nine of two", with("123;411", "a+9").hedge(0), 99);
        due("nine of the first", with("211;121", "b+9").hedge(0), 900);
        due("ten of the first would be needed", with("211;131", "b+5").hedge(0), NONE);
        due("ten of the second would be needed", with("121;311", "a+5").hedge(0), NONE);
        due("ten of the third would be needed", with("112;311", "a+5").hedge(0), NONE);
        due("all parties, not two of them", with("123;411;111", "a+9").hedge(0), NONE);
        due("the last party, too", with("111;111;111;119", "c-3").hedge(0), 3);
        due("none is needed", with("119;111", "a+9").hedge(0), 0);
        PoundVotes x = with("911;111", "a-5");
        for (int unit = 0; unit < 3; unit++) {
            x.change(1, 0, unit, 5 - unit);
            x.change(1, 1, unit, 6 + unit);
        }
        due("year 0 alone", x.hedge(0), 500);
        x.change(0, 0, 0, 1);
        due("with its changes", x.hedge(0), 0);
    }

    private static void leastHedge() {
        says("the least together, of like ones the least (as three figures): as three figures; NONE.");
        due("one of a, not four of c", with("512;111", "c-4").hedge(0), 100);
        due("of like ones the least", with("222;111", "a-3").hedge(0), 3);
        due("of like ones the least", with("221;111", "a-3").hedge(0), 30);
        due("none", with("111;911", "a+1").hedge(0), NONE);
        due("one party: nothing", with("987", "a-9").hedge(0), 0);
        due("no parties: nothing", with("", "a-9").hedge(0), 0);
    }

    private static void rest() {
        says("REST. BAD (a row 0 to 4095); NOT: there are no PARTIES; BAD, too: a PARTY that there is not "
                + "(of the first six VOTERS that there are; others aside).");
        PoundVotes x = new PoundVotes();
        for (int row : new int[] {-1, 4096, LEAST, MOST}) due("row, ahead of no parties", x.rest(row), BAD);
        due("no parties", x.rest(0), NOT);
        due("no parties", x.rest(4095), NOT);
        typed(x, 1, EIGHT_VOTERS);
        due("no parties ahead of a party that there is not", x.rest(4095), NOT);
        typed(x, 0, "111;111;111");
        due("the last party", x.rest(0xAAA), 1);
        for (int v = 0; v < 6; v++) due("a party that there is not", x.rest(3 << 2 * v), BAD);
        for (int row : new int[] {-1, 4096, LEAST, MOST}) due("row", x.rest(row), BAD);
        x = with("111;111;111", "a+1;a+1");
        due("of voters that there are", x.rest(3 << 2), BAD);
        due("others aside", x.rest(3 << 4), 1);
        due("others aside", x.rest(4095 - 15), 1);
        x.wipe(1);
        due("no voters: all aside", x.rest(4095), 1);
    }

    private static void rests() {
        says("RESTS (of VOTERS and PARTIES that there are; 0 without PARTIES).");
        due("a new object", new PoundVotes().rests(), 0);
        due("without parties", with("", EIGHT_VOTERS).rests(), 0);
        due("two voters, two like parties", with("111;111", "a+1;b-1").rests(), 4);
        due("three voters, three like parties", with("111;111;111", "a+1;b-1;c+1").rests(), 27);
    }

    private static void wins() {
        says("WINS: the ticket (what = 0), how unlike (1); NONE. BAD.");
        PoundVotes x = with("123;456", "a+1;b+1");
        due("the ticket", x.wins(1, 0), 456);
        due("how unlike", x.wins(1, 1), 0);
        for (int bad : new int[] {-1, 2, LEAST, MOST}) {
            due("what", x.wins(0, bad), BAD);
            due("party", x.wins(bad, 0), BAD);
        }
        due("no parties", with("", "a+1").wins(0, 0), BAD);
        x = with("911;111", "a+1");
        due("none", x.wins(1, 0), NONE);
        due("none", x.wins(1, 1), NONE);
        due("what, where there is none", x.wins(1, 2), BAD);
    }

    private static void hedge() {
        says("HEDGE; NONE. BAD.");
        PoundVotes x = with("123;456", "a+1;b-1");
        due("none", x.hedge(0), NONE);
        due("a hedge", x.hedge(1), 1);
        for (int v : new int[] {-1, 2, 7, 8, LEAST, MOST}) due("no such voter", x.hedge(v), BAD);
        due("no voters", with("123", "").hedge(0), BAD);
    }

    public static void main(String[] args) {
        rowOfVotes();
        othersVoteAsTheyDo();
        noneWouldGainMore();
        allRows();
        rowsOneByOne("911;345;581", "a+5;a-3;b+2;c-9;b-1;c+1;a+2", 3);
        rowsOneByOne("111;999;555;373", "a+9;a+9;b-1;c-4;a-5;b+3;c+2;a-1", 4);
        winsNearest();
        winsTies();
        hedges();
        leastHedge();
        rest();
        rests();
        wins();
        hedge();
        end("all edges of votes are kept");
    }
}

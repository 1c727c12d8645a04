/** Edges that the document names for RATIOS, RATES and BILLS: a method for each sentence or part of one. */
public final class TradeEdgesTest extends Checks {
    private static void worthIs(PoundVotes x, int a, int b, long above, long below) {
        due("above, " + a + " in " + b, x.worth(a, b, 0), above);
        due("below, " + a + " in " + b, x.worth(a, b, 1), below);
        due("above, " + b + " in " + a, x.worth(b, a, 0), below);
        due("below, " + b + " in " + a, x.worth(b, a, 1), above);
    }

    /** All RATES lose so much that no ROUND gains but by those that are told behind. */
    private static PoundVotes dearTowns(int... rates) {
        PoundVotes x = new PoundVotes();
        for (int a = 0; a < 4; a++) for (int b = 0; b < 4; b++) if (a != b) x.rate(a, b, 1, 9);
        for (int i = 0; i + 3 < rates.length; i += 4) x.rate(rates[i], rates[i + 1], rates[i + 2], rates[i + 3]);
        return x;
    }

    private static void roundIs(String what, PoundVotes x, int above, int below, int... towns) {
        due(what + ", above", x.round(-2), above);
        due(what + ", below", x.round(-1), below);
        for (int i = 0; i < 4; i++) due(what + ", town " + i, x.round(i), i < towns.length ? towns[i] : NONE);
    }

    private static void fractions() {
        says("FRACTIONS are told in lowest terms, above and below (0 by 1).");
        worthIs(withRatios("ab4;cb6"), 0, 2, 2, 3);
        worthIs(withRatios("ab9;cb9"), 0, 2, 1, 1);
        worthIs(withRatios("ab8;bc6;dc9"), 0, 3, 16, 3);
        roundIs("54 by 48", dearTowns(0, 1, 9, 8, 1, 0, 6, 6), 9, 8, 0, 1);
        roundIs("36 by 12", dearTowns(2, 3, 6, 4, 3, 2, 6, 3), 3, 1, 2, 3);
    }

    private static void worthForthAndBack() {
        says("WORTH of one of a to f (0 to 5) in another one, by RATIOS (forth, and back):");
        PoundVotes x = withRatios("af9");
        worthIs(x, 0, 5, 9, 1);
        worthIs(withRatios("ab9;bc9;cd9;de9;ef9"), 0, 5, 59049, 1);
        worthIs(withRatios("ba9;cb9;dc9;ed9;fe9"), 0, 5, 1, 59049);
        worthIs(withRatios("ef2;de3;cd5;bc7;ab8"), 0, 5, 1680, 1);
        worthIs(withRatios("ab7;cb5;cd9;ed8;ef1"), 0, 5, 63, 40);
        worthIs(withRatios("ab9;ef9;cd9;bc8;fe1;de7"), 0, 5, 9 * 8 * 9 * 7 * 9, 1);
        for (int bad : new int[] {-1, 6, LEAST, MOST}) {
            due("which", x.worth(bad, 0, 0), LONG_BAD);
            due("in which", x.worth(0, bad, 0), LONG_BAD);
        }
    }

    private static void worthOneByOne() {
        says("by those that do not CLASH, one by one: a FRACTION;");
        PoundVotes x = withRatios("ab2;ab3;bc2;ac6");
        worthIs(x, 0, 1, 2, 1);
        worthIs(x, 0, 2, 4, 1);
        due("the first that clashes", x.clash(), 1);
        // The third agrees with the first alone, so it does not clash; the fourth is told by the second, which does.
        x = withRatios("ab2;ab3;ba1;cb3;ac1");
        due("the first that clashes", x.clash(), 1);
        worthIs(x, 0, 2, 2, 3);
    }

    private static void worthNotTold() {
        says("NOT: none tells. CLASH");
        PoundVotes x = withRatios("ab2;cd3");
        for (int what = 0; what < 2; what++) {
            due("groups that nothing joins", x.worth(0, 2, what), LONG_NOT);
            due("one that is in no ratio", x.worth(0, 5, what), LONG_NOT);
            due("two that are in none", x.worth(4, 5, what), LONG_NOT);
        }
        typed(x, 2, ";db4");
        worthIs(x, 0, 2, 1, 6);
        worthIs(x, 2, 1, 12, 1);
        due("a new object", new PoundVotes().worth(0, 1, 0), LONG_NOT);
    }

    private static void clashFirst() {
        says("CLASH: the first RATIO that tells otherwise than those ahead of it that do not CLASH; NONE.");
        due("no ratios", new PoundVotes().clash(), NONE);
        due("one alone", withRatios("ab9").clash(), NONE);
        due("the same again", withRatios(EIGHT_RATIOS).clash(), NONE);
        due("one by one, forth and back", withRatios("ab1;ba1").clash(), NONE);
        due("two by one, forth and back", withRatios("ab2;ba2").clash(), 1);
        due("around, as told", withRatios("ab2;bc3;ac6").clash(), NONE);
        due("around, otherwise", withRatios("ab2;bc3;ac5").clash(), 2);
        due("around, back", withRatios("ab1;bc1;ca2").clash(), 2);
        due("the last of eight", withRatios("ab1;bc1;cd1;de1;ef1;ab1;bc1;fa2").clash(), 7);
        due("the first of two", withRatios("ab1;ab2;ab3").clash(), 1);
        due("around, by a third", withRatios("ab2;ac1;cb1").clash(), 2);
    }

    private static void fewestDropped() {
        says("DROP: the fewest RATIOS without which none CLASHES, of like ones the least bits: as bits.");
        due("none", new PoundVotes().drop(), 0);
        due("none clashes", withRatios(EIGHT_RATIOS).drop(), 0);
        due("either: the least bits", withRatios("ab1;ab2").drop(), 1);
        due("the first, not both others", withRatios("ab1;ab2;ab2").drop(), 1);
        due("the last alone", withRatios("ab1;ab1;ab2").drop(), 4);
        due("the last of eight alone", withRatios("ab1;ab1;ab1;ab1;ab1;ab1;ab1;ab2").drop(), 128);
        due("all but the last", withRatios("ab1;ab2;ab3;ab4;ab5;ab6;ab7;ab8").drop(), 127);
        due("what is told twice is not to be dropped", withRatios("ab1;bc1;cd1;de1;ef1;ab1;bc1;fa2").drop(), 4);
        due("not the one that clashes", withRatios("ab2;ab3;bc2;ac6").drop(), 1);
        due("two apart", withRatios("ab1;cd1;ba2;dc2").drop(), 3);
    }

    private static void rates() {
        says("RATES between TOWNS 0 to 3: for one pound of the one so many by so many (1 to 9 each; 1 by 1 at first) "
                + "of the other one.");
        PoundVotes x = new PoundVotes();
        for (int a = 0; a < 4; a++) for (int b = 0; b < 4; b++) if (a != b) due("at first", x.rate(a, b, a + 1, b + 5), 11);
        for (int a = 0; a < 4; a++) {
            for (int b = 0; b < 4; b++) if (a != b) due("each by itself", x.rate(a, b, 9, 1), 10 * a + b + 15);
        }
        due("the least", x.rate(0, 3, 1, 9), 91);
        for (int bad : new int[] {0, 10, -1, LEAST, MOST}) {
            due("above", x.rate(0, 3, bad, 1), BAD);
            due("below", x.rate(0, 3, 1, bad), BAD);
        }
        for (int bad : new int[] {-1, 4, LEAST, MOST}) {
            due("from", x.rate(bad, 0, 1, 1), BAD);
            due("to", x.rate(0, bad, 1, 1), BAD);
        }
        due("it is as it was", x.rate(0, 3, 1, 1), 19);
    }

    private static void roundOfTowns() {
        says("ROUND: the row of TOWNS, each once, two at least, that begins with its least,");
        roundIs("it begins with its least", dearTowns(3, 1, 2, 1, 1, 2, 2, 1, 2, 3, 2, 1), 8, 1, 1, 2, 3);
        roundIs("it begins with its least", dearTowns(3, 2, 2, 1, 2, 1, 2, 1, 1, 3, 2, 1), 8, 1, 1, 3, 2);
        roundIs("each once", dearTowns(0, 1, 9, 1, 1, 0, 9, 1), 81, 1, 0, 1);
        roundIs("two", dearTowns(3, 2, 9, 1, 2, 3, 9, 1), 81, 1, 2, 3);
        PoundVotes x = dearTowns(0, 1, 9, 8, 1, 2, 9, 8, 2, 3, 9, 8, 3, 0, 9, 8);
        roundIs("all four", x, 6561, 4096, 0, 1, 2, 3);
        x = dearTowns(0, 3, 9, 1, 3, 2, 9, 1, 2, 1, 9, 1, 1, 0, 9, 1);
        roundIs("all four the other way", x, 6561, 1, 0, 3, 2, 1);
    }

    private static void roundGains() {
        says("by which one comes back with most for one pound (what is more than one, else none), "
                + "of like ones the fewest, of like ones the least:");
        roundIs("just one is none", dearTowns(0, 1, 2, 1, 1, 0, 1, 2), 1, 1);
        roundIs("a little more than one", dearTowns(0, 1, 9, 8, 1, 0, 8, 8), 9, 8, 0, 1);
        roundIs("a little less", dearTowns(0, 1, 8, 9, 1, 0, 8, 8), 1, 1);
        PoundVotes x = new PoundVotes();
        x.rate(0, 1, 2, 1);
        roundIs("of like ones the fewest", x, 2, 1, 0, 1);
        x = dearTowns(1, 2, 2, 1, 2, 1, 1, 1, 0, 3, 2, 1, 3, 0, 1, 1);
        roundIs("of like ones the least", x, 2, 1, 0, 3);
        x.rate(1, 2, 3, 1);
        roundIs("the most", x, 3, 1, 1, 2);
        x = new PoundVotes();
        for (int a = 0; a < 4; a++) for (int b = 0; b < 4; b++) if (a != b) x.rate(a, b, 9, 1);
        roundIs("of all rows of four the least", x, 6561, 1, 0, 1, 2, 3);
        x = dearTowns(0, 1, 2, 1, 1, 0, 2, 1, 1, 2, 2, 1, 2, 0, 1, 1);
        roundIs("two, though three are as good", x, 4, 1, 0, 1);
        x.rate(2, 0, 9, 8);
        roundIs("three, if they are better", x, 9, 2, 0, 1, 2);
    }

    private static void roundTold() {
        says("the product: a FRACTION (1 by 1: none gains); the i-th; NONE.");
        roundIs("a new object", new PoundVotes(), 1, 1);
        PoundVotes x = dearTowns(0, 2, 3, 1, 2, 0, 1, 1);
        roundIs("two towns, and none behind them", x, 3, 1, 0, 2);
        x.rate(2, 0, 1, 3);
        roundIs("none gains any more", x, 1, 1);
        x = dearTowns(0, 1, 9, 8, 1, 0, 1, 1);
        roundIs("nine by eight", x, 9, 8, 0, 1);
        x.rate(0, 1, 8, 9);
        roundIs("none gains any more", x, 1, 1);
    }

    private static void mostBills() {
        says("BILLS, 6 at most: so much (1 to 9) of a UNIT was paid with so many (1 to 99):");
        PoundVotes x = with("999", "a+1");
        due("the least", x.bill(1, 0, 1), 1);
        due("the greatest", x.bill(9, 2, 99), 2);
        for (int bad : new int[] {0, 10, -1, LEAST, MOST}) due("much", x.bill(bad, 0, 9), BAD);
        for (int bad : new int[] {0, 100, -1, LEAST, MOST}) due("paid", x.bill(1, 0, bad), BAD);
        for (int n = 3; n <= 6; n++) due("one more", x.bill(1, 0, 9), n);
        due("no seventh", x.bill(1, 0, 9), FULL);
        due("six", x.count(5), 6);
        due("room again", x.back(2), 5);
        due("one more", x.bill(1, 0, 9), 6);
        due("no seventh", x.bill(1, 0, 9), FULL);
    }

    private static void yearsOfBills() {
        says("YEARS in which all BILLS hold (so much times how great the UNIT is), as bits.");
        PoundVotes x = with("199", "a+1");
        due("no bills", x.years(), 1023);
        x.change(9, 0, 0, 9);
        x.bill(9, 1, 81);
        due("all years", x.years(), 1023);
        x.bill(9, 0, 81);
        due("the last year", x.years(), 512);
        x.back(2);
        x.bill(9, 0, 9);
        due("all but the last", x.years(), 511);
        x.bill(9, 1, 80);
        due("one less", x.years(), 0);
        x.back(2);
        x.bill(9, 1, 82);
        due("one more", x.years(), 0);
        x.back(2);
        x.change(1, 0, 0, 2);
        due("the first year", x.years(), 1);
        x.bill(1, 0, 2);
        due("all of them, not some", x.years(), 0);
        x = with("123", "a+1");
        x.bill(1, 0, 2);
        x.bill(1, 1, 2);
        due("the first does not hold", x.years(), 0);
    }

    private static void worth() {
        says("WORTH of one in another one: above, below. BAD: also in itself; NOT. (As the least long.)");
        PoundVotes x = withRatios("ab2");
        due("above", x.worth(0, 1, 0), 2);
        due("below", x.worth(0, 1, 1), 1);
        for (int kind = 0; kind < 6; kind++) due("in itself", x.worth(kind, kind, 0), Long.MIN_VALUE + 2);
        for (int what : new int[] {-1, 2, LEAST, MOST}) {
            due("what", x.worth(0, 1, what), Long.MIN_VALUE + 2);
            due("what, ahead of none tells", x.worth(2, 3, what), Long.MIN_VALUE + 2);
        }
        due("none tells", x.worth(2, 3, 1), Long.MIN_VALUE + 3);
        due("no such, ahead of none tells", x.worth(2, 6, 1), Long.MIN_VALUE + 2);
    }

    private static void clash() {
        says("`int clash()`: CLASH; NONE.");
        PoundVotes x = withRatios("ab2;ab3");
        due("the first", x.clash(), 1);
        x.undo(2);
        due("a fault: none", x.clash(), NONE);
        x.type(2, '2');
        due("none", x.clash(), NONE);
    }

    private static void drop() {
        says("DROP, as bits.");
        PoundVotes x = withRatios("ab2;ab3");
        due("the first", x.drop(), 1);
        x.undo(2);
        due("a fault: none", x.drop(), 0);
        x.type(2, '2');
        due("none", x.drop(), 0);
    }

    private static void rate() {
        says("A RATE from a TOWN to another one: 10 times what it was above, and what it was below. BAD: also to itself.");
        PoundVotes x = new PoundVotes();
        due("at first", x.rate(2, 3, 9, 8), 11);
        due("what it was", x.rate(2, 3, 1, 1), 98);
        for (int town = 0; town < 4; town++) due("to itself", x.rate(town, town, 1, 1), BAD);
        due("the other way", x.rate(3, 2, 1, 1), 11);
    }

    private static void round() {
        says("ROUND: the product above (i = -2), below (NONE), the i-th TOWN (0 to 3; NONE). BAD.");
        PoundVotes x = dearTowns(0, 1, 9, 8, 1, 0, 1, 1);
        due("above", x.round(-2), 9);
        due("below", x.round(PoundVotes.NONE), 8);
        due("the second", x.round(1), 1);
        due("none", x.round(2), NONE);
        due("none", x.round(3), NONE);
        for (int i : new int[] {-3, 4, LEAST, MOST}) due("no such", x.round(i), BAD);
    }

    private static void bill() {
        says("A BILL more: how many. BAD; FULL.");
        PoundVotes x = new PoundVotes();
        for (int n = 1; n <= 6; n++) due("how many", x.bill(1, 0, 1), n);
        due("full", x.bill(1, 0, 1), FULL);
        due("bad ahead of full", x.bill(0, 0, 1), BAD);
        due("bad ahead of full", x.bill(1, 3, 1), BAD);
        due("bad ahead of full", x.bill(1, 0, 0), BAD);
    }

    private static void years() {
        says("YEARS, as bits.");
        PoundVotes x = new PoundVotes();
        due("no bills", x.years(), 1023);
        x.bill(3, 0, 3);
        due("no parties: all units are 1", x.years(), 1023);
        x.bill(3, 0, 4);
        due("none", x.years(), 0);
    }

    public static void main(String[] args) {
        fractions();
        worthForthAndBack();
        worthOneByOne();
        worthNotTold();
        clashFirst();
        fewestDropped();
        rates();
        roundOfTowns();
        roundGains();
        roundTold();
        mostBills();
        yearsOfBills();
        worth();
        clash();
        drop();
        rate();
        round();
        bill();
        years();
        end("all edges of trade are kept");
    }
}

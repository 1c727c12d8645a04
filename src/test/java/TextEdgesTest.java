/** Edges that the document names for texts, CHANGES, LAW, DAY and PURSES: a method for each sentence or part of one. */
public final class TextEdgesTest extends Checks {
    private static final int[] MOST_BYTES = {15, 31, 31};
    private static final String[] FULL_TEXTS = {"111;222;333;444", EIGHT_VOTERS, EIGHT_RATIOS};

    private static PoundVotes withText(int text, String bytes) {
        PoundVotes x = new PoundVotes();
        typed(x, text, bytes);
        return x;
    }

    private static void faultOf(int text, String bytes, int place) {
        PoundVotes x = withText(text, bytes);
        due("fault of " + bytes, x.fault(text), place);
        due("items of " + bytes, x.count(text), place == NONE ? (bytes.length() + 1) / 4 : 0);
    }

    private static void lastCall() {
        says("An object is used for at most 512 calls after it has been made; what later calls answer is free.");
        PoundVotes x = with("123;456", "a+1");
        for (int call = 11; call <= 510; call++) due("call " + call, x.type(2, 256), BAD);
        due("call 511", x.set(0, 1), 0);
        due("call 512", x.great(9, 0), 4);
    }

    private static void units() {
        says("UNITS are 0 to 2.");
        PoundVotes x = with("123;456", "a+1");
        int[] fine = {0, 2}, wrong = {-1, 3, LEAST, MOST};
        for (int unit : fine) {
            due("ticket", x.ticket(0, 0, unit), unit + 1);
            due("elected", x.elected(0, unit), 1);
            due("great", x.great(0, unit), unit + 4);
            due("votes", x.votes(0, unit, 1), 1);
            due("change", x.change(9, 3, unit, 1), unit / 2 + 1);
            due("contract", x.contract(0, 1, 1, unit, 0, 1), unit / 2 + 1);
            due("bill", x.bill(1, unit, 1), unit / 2 + 1);
        }
        for (int unit : wrong) {
            due("ticket", x.ticket(0, 0, unit), BAD);
            due("elected", x.elected(0, unit), BAD);
            due("great", x.great(0, unit), BAD);
            due("votes", x.votes(0, unit, 0), BAD);
            due("change", x.change(0, 0, unit, 1), BAD);
            due("contract", x.contract(0, 1, 1, unit, 0, 1), BAD);
            due("bill", x.bill(1, unit, 1), BAD);
        }
    }

    /** A text takes its last byte, and no byte more until one is undone. */
    private static void fills(int text) {
        PoundVotes x = withText(text, FULL_TEXTS[text].substring(0, MOST_BYTES[text] - 1));
        due("the last byte", x.type(text, '9'), MOST_BYTES[text]);
        due("one more", x.type(text, ';'), FULL);
        due("one more", x.type(text, 0), FULL);
        due("it is as it was", x.fault(text), NONE);
        due("room again", x.undo(text), MOST_BYTES[text] - 1);
        due("the last byte", x.type(text, '9'), MOST_BYTES[text]);
        due("full again", x.type(text, '9'), FULL);
        due("all of it", x.wipe(text), MOST_BYTES[text]);
    }

    private static void ticketBytes() {
        says("TICKETS are a text of up to 15 bytes (text 0)");
        fills(0);
    }

    private static void mostParties() {
        says("PARTIES, 4 at most (0 on), with ; between them: three figures");
        PoundVotes x = withText(0, FULL_TEXTS[0]);
        due("four", x.count(0), 4);
        due("the first", x.ticket(0, 0, 0), 1);
        due("the fourth", x.ticket(0, 3, 2), 4);
        due("no fifth", x.ticket(0, 4, 0), BAD);
        due("none ahead of the first", x.ticket(0, -1, 0), BAD);
        due("votes of the fourth", x.votes(0, 0, 3), 0);
        due("votes of no fifth", x.votes(0, 0, 4), BAD);
        due("wins of the fourth", x.wins(3, 1), NONE);
        due("wins of no fifth", x.wins(4, 1), BAD);
        x = withText(0, "123");
        due("one", x.count(0), 1);
        due("no second", x.ticket(0, 1, 0), BAD);
    }

    private static void ticketFigures() {
        says("three figures (1 to 9), how great each UNIT is to be.");
        for (int place = 0; place < 3; place++) {
            String ahead = "55".substring(0, place), behind = "55".substring(place);
            faultOf(0, ahead + "1" + behind, NONE);
            faultOf(0, ahead + "9" + behind, NONE);
            faultOf(0, ahead + "0" + behind, place);
            faultOf(0, ahead + ":" + behind, place);
            due("the least", withText(0, ahead + "1" + behind).ticket(0, 0, place), 1);
            due("the greatest", withText(0, ahead + "9" + behind).ticket(0, 0, place), 9);
        }
        faultOf(0, "5555", 3);
        faultOf(0, "55;", 2);
    }

    private static void voterBytes() {
        says("VOTERS are a text of up to 31 bytes (text 1), 8 at most (0 on), with ; between them");
        fills(1);
        PoundVotes x = withText(1, EIGHT_VOTERS.substring(0, 28) + "c-9");
        due("eight", x.count(1), 8);
        due("the first", x.voter(0, 0), 0);
        due("the eighth", x.voter(7, 0), 2);
        due("no ninth", x.voter(8, 0), BAD);
        due("none ahead of the first", x.voter(-1, 0), BAD);
        due("hedge of the eighth", x.hedge(7), 0);
        due("hedge of no ninth", x.hedge(8), BAD);
    }

    private static void voterSigns() {
        says("a letter a to c (the UNIT), + (is owed in it) or - (owes in it), and a figure (1 to 9), how much.");
        faultOf(1, "a+1", NONE);
        faultOf(1, "c-9", NONE);
        for (char sign : new char[] {'`', 'd', 'A', 'C', '1', '+', ';', 0, 255, 'a' + 128}) faultOf(1, sign + "+1", 0);
        for (char sign : new char[] {'*', ',', '.', 'a', '1', ';', 0, 255, '+' + 128}) faultOf(1, "a" + sign + "1", 1);
        for (char sign : new char[] {'0', ':', 'a', '+', ';', 0, 255, '1' + 128}) faultOf(1, "a+" + sign, 2);
        PoundVotes x = withText(1, "a+1;c-9");
        int[][] want = {{0, 1, 1}, {2, 0, 9}};
        for (int v = 0; v < 2; v++) for (int what = 0; what < 3; what++) due("voter", x.voter(v, what), want[v][what]);
    }

    private static void ratioBytes() {
        says("RATIOS are a text of up to 31 bytes (text 2), 8 at most (0 on), with ; between them");
        fills(2);
        PoundVotes x = withText(2, EIGHT_RATIOS);
        due("eight", x.count(2), 8);
        x = withText(2, EIGHT_RATIOS.substring(0, 28) + "ab2");
        due("the eighth counts", x.clash(), 7);
    }

    private static void ratioSigns() {
        says("two letters a to f (unlike) and a figure (1 to 9)");
        faultOf(2, "af1", NONE);
        faultOf(2, "fa9", NONE);
        for (char sign : new char[] {'`', 'g', 'A', 'F', '1', ';', 0, 255, 'a' + 128}) {
            faultOf(2, sign + "b1", 0);
            faultOf(2, "b" + sign + "1", 1);
        }
        for (char sign : new char[] {'0', ':', 'c', ';', 0, 255, '1' + 128}) faultOf(2, "ab" + sign, 2);
    }

    private static void ratioTells() {
        says("one of the first is so many of the second.");
        PoundVotes x = withText(2, "af9;cb1");
        due("forth", x.worth(0, 5, 0), 9);
        due("forth", x.worth(0, 5, 1), 1);
        due("back", x.worth(5, 0, 0), 1);
        due("back", x.worth(5, 0, 1), 9);
        due("one by one", x.worth(1, 2, 0), 1);
        due("one by one", x.worth(1, 2, 1), 1);
    }

    private static void firstWrongByte() {
        says("The FAULT of a text is the place of the first byte with which it cannot go on");
        for (int text = 0; text < 3; text++) {
            String well = FULL_TEXTS[text];
            for (int place = 0; place < well.length(); place++) {
                faultOf(text, well.substring(0, place) + "!" + well.substring(place + 1), place);
                faultOf(text, well.substring(0, place) + "!!", place);
            }
        }
    }

    private static void emptyIsWell() {
        says("(an empty one is well;");
        for (int text = 0; text < 3; text++) {
            PoundVotes x = new PoundVotes();
            due("new", x.fault(text), NONE);
            due("new", x.count(text), 0);
            x.type(text, '!');
            due("with a fault", x.fault(text), 0);
            due("undone", x.undo(text), 0);
            due("undone", x.fault(text), NONE);
            x.type(text, '!');
            due("wiped", x.wipe(text), 1);
            due("wiped", x.fault(text), NONE);
        }
    }

    private static void notEnded() {
        says("of one that is not ended, its end)");
        for (int text = 0; text < 3; text++) {
            String well = FULL_TEXTS[text];
            for (int n = 1; n <= well.length(); n++) faultOf(text, well.substring(0, n), n % 4 == 3 ? NONE : n);
        }
    }

    private static void likeLetters() {
        says("here also of a second letter like the first,");
        for (char letter = 'a'; letter <= 'f'; letter++) {
            faultOf(2, "" + letter + letter + "1", 1);
            faultOf(2, "ab1;" + letter + letter, 5);
        }
        faultOf(2, "ab1;ba1", NONE);
        faultOf(2, "ab1;bc1", NONE);
        faultOf(0, "111", NONE);
    }

    /** The text is full ahead of such a byte, so it cannot be typed, and there is no FAULT. */
    private static void oneTooMany() {
        says("or of the first byte of one too many.");
        for (int text = 0; text < 3; text++) {
            PoundVotes x = withText(text, FULL_TEXTS[text]);
            due("all are there", x.count(text), text == 0 ? 4 : 8);
            due("no ; behind them", x.type(text, ';'), FULL);
            due("no fault", x.fault(text), NONE);
            due("all are there", x.count(text), text == 0 ? 4 : 8);
        }
    }

    private static void faultyTickets() {
        says("With a FAULT a text is as if it was empty.");
        PoundVotes x = with("911;191", "a+1;b+2", "ab2;ab3");
        due("well", x.great(0, 1), 1);
        x.type(0, ';');
        due("no parties", x.count(0), 0);
        due("ticket", x.ticket(0, 0, 0), BAD);
        due("elected", x.elected(0, 0), NONE);
        due("great", x.great(0, 0), 1);
        due("votes", x.votes(0, 0, 0), BAD);
        due("split", x.split(), 0);
        due("rest", x.rest(0), NOT);
        due("rests", x.rests(), 0);
        due("wins", x.wins(0, 0), BAD);
        due("voters stay", x.count(1), 2);
        due("it has its bytes", x.undo(0), 7);
        due("it is well again", x.great(0, 0), 9);
        due("it is well again", x.split(), 1023);
    }

    private static void faultyVoters() {
        PoundVotes x = with("911;191", "b+1;b+2", "ab2;ab3");
        due("well", x.elected(0, 0), 1);
        x.type(1, 'a');
        due("no voters", x.count(1), 0);
        due("voter", x.voter(0, 0), BAD);
        due("hedge", x.hedge(0), BAD);
        due("nobody votes", x.votes(0, 0, 1), 0);
        due("the least", x.elected(0, 0), 0);
        due("one empty row", x.rests(), 1);
        due("purses stay", x.money(1, 0), 100);
        due("it has its bytes", x.wipe(1), 8);
    }

    private static void faultyRatios() {
        PoundVotes x = with("911;191", "b+1;b+2", "ab2;ab3");
        due("well", x.clash(), 1);
        x.type(2, 'a');
        due("no ratios", x.count(2), 0);
        due("clash", x.clash(), NONE);
        due("drop", x.drop(), 0);
        due("worth", x.worth(0, 1, 0), LONG_NOT);
        due("it has its bytes", x.undo(2), 7);
        due("it is well again", x.worth(0, 1, 0), 2);
    }

    private static void years() {
        says("YEARS are 0 to 9.");
        PoundVotes x = with("123", "a+1");
        x.sheet(0, 2, 1);
        int[] fine = {0, 9}, wrong = {-1, 10, LEAST, MOST};
        for (int year : fine) {
            due("ticket", x.ticket(year, 0, 0), 1);
            due("elected", x.elected(year, 0), 0);
            due("great", x.great(year, 0), 1);
            due("votes", x.votes(year, 0, 0), 1);
            due("money", x.money(0, year), 100);
            due("write", x.write(year, 0), 1);
            due("change", x.change(year, 3, 0, 1), year / 9 + 1);
        }
        due("contract", x.contract(0, 1, 1, 0, 0, 9), 1);
        for (int year : wrong) {
            due("ticket", x.ticket(year, 0, 0), BAD);
            due("elected", x.elected(year, 0), BAD);
            due("great", x.great(year, 0), BAD);
            due("votes", x.votes(year, 0, 0), BAD);
            due("money", x.money(0, year), -100002);
            due("write", x.write(year, 0), BAD);
            due("change", x.change(year, 0, 0, 1), BAD);
            due("contract made", x.contract(0, 1, 1, 0, year, 9), BAD);
            due("contract due", x.contract(0, 1, 1, 0, 0, year), BAD);
        }
    }

    private static void mostChanges() {
        says("CHANGES, 10 at most (0 on): from a YEAR");
        PoundVotes x = withText(0, "111");
        for (int n = 1; n <= 10; n++) due("one more", x.change(0, 0, 0, n % 9 + 1), n);
        due("the tenth counts", x.ticket(0, 0, 0), 2);
        due("no eleventh", x.change(0, 0, 0, 7), FULL);
        due("it is as it was", x.ticket(0, 0, 0), 2);
        due("ten", x.count(3), 10);
        due("room again", x.back(0), 9);
        due("the ninth counts", x.ticket(0, 0, 0), 1);
        due("one more", x.change(0, 0, 0, 7), 10);
        due("no eleventh", x.change(0, 0, 0, 8), FULL);
    }

    private static void changeFrom() {
        says("from a YEAR on a PARTY's ticket has a UNIT as great as told (1 to 9)");
        PoundVotes x = withText(0, "555;555");
        due("the least", x.change(9, 0, 0, 1), 1);
        due("the greatest", x.change(0, 1, 2, 9), 2);
        due("below", x.change(0, 0, 1, 0), BAD);
        due("above", x.change(0, 0, 1, 10), BAD);
        due("below", x.change(0, 0, 1, LEAST), BAD);
        due("above", x.change(0, 0, 1, MOST), BAD);
        due("the year ahead", x.ticket(8, 0, 0), 5);
        due("the last year itself", x.ticket(9, 0, 0), 1);
        for (int year = 0; year < 10; year++) due("from the first year on", x.ticket(year, 1, 2), 9);
        due("other units", x.ticket(9, 0, 1), 5);
        due("other parties", x.ticket(9, 1, 0), 5);
    }

    private static void whichChangeCounts() {
        says("of all that are told for YEARS up to one that of the latest YEAR counts, of like ones the last told.");
        PoundVotes x = withText(0, "555");
        x.change(7, 0, 0, 7);
        x.change(2, 0, 0, 2);
        x.change(4, 0, 0, 3);
        x.change(4, 0, 0, 4);
        x.change(2, 0, 0, 1);
        int[] want = {5, 5, 1, 1, 4, 4, 4, 7, 7, 7};
        for (int year = 0; year < 10; year++) due("year " + year, x.ticket(year, 0, 0), want[year]);
        x.back(0);
        due("the last told is undone", x.ticket(3, 0, 0), 2);
        due("later ones stay", x.ticket(4, 0, 0), 4);
    }

    private static void laws() {
        says("LAW (0 to 2; 0 at first), each YEAR, VOTERS by numbers");
        PoundVotes x = new PoundVotes();
        due("at first", x.count(6), 0);
        due("the greatest", x.set(0, 2), 0);
        due("above", x.set(0, 3), BAD);
        due("above", x.set(0, MOST), BAD);
        due("below", x.set(0, -1), BAD);
        due("below", x.set(0, LEAST), BAD);
        due("it is as it was", x.count(6), 2);
        due("in between", x.set(0, 1), 2);
        due("the least", x.set(0, 0), 1);
        due("to itself", x.set(0, 0), 0);
    }

    private static void days() {
        says("by DAY (0, 1; 0 at first)");
        PoundVotes x = new PoundVotes();
        due("at first", x.count(7), 0);
        due("the greatest", x.set(1, 1), 0);
        due("above", x.set(1, 2), BAD);
        due("above", x.set(1, MOST), BAD);
        due("below", x.set(1, -1), BAD);
        due("below", x.set(1, LEAST), BAD);
        due("it is as it was", x.count(7), 1);
        due("the least", x.set(1, 0), 1);
        due("the law is not the day", x.count(6), 0);
    }

    private static void purses() {
        says("PURSE (0 to 999; 100 at first) has each VOTER ahead of YEAR 0.");
        PoundVotes x = new PoundVotes();
        for (int v = 0; v < 8; v++) due("at first", x.money(v, 0), 100);
        due("the greatest", x.purse(0, 999), 100);
        due("above", x.purse(0, 1000), BAD);
        due("above", x.purse(0, MOST), BAD);
        due("below", x.purse(0, -1), BAD);
        due("below", x.purse(0, LEAST), BAD);
        due("it is as it was", x.money(0, 0), 999);
        due("the least", x.purse(0, 0), 999);
        due("the least", x.purse(0, 0), 0);
        due("others", x.money(1, 9), 100);
    }

    private static void newObject() {
        says("No PARTIES; all SHEETS are LOST.");
        PoundVotes x = new PoundVotes();
        due("no parties", x.count(0), 0);
        for (int s = 0; s < 4; s++) due("sheet " + s, x.lose(s), NULL);
        PoundVotes y = new PoundVotes();
        typed(y, 0, "123");
        y.sheet(0, 0, 5);
        due("another object's parties", x.count(0), 0);
        due("another object's sheets", x.lose(0), NULL);
    }

    private static void type() {
        says("A byte (0 to 255) comes behind a text: how many. BAD; FULL.");
        PoundVotes x = new PoundVotes();
        due("the least", x.type(0, 0), 1);
        due("the greatest", x.type(0, 255), 2);
        due("below", x.type(0, -1), BAD);
        due("above", x.type(0, 256), BAD);
        due("wrapped", x.type(0, 256 + '1'), BAD);
        due("below", x.type(0, LEAST), BAD);
        due("above", x.type(0, MOST), BAD);
        due("the last text", x.type(2, 'a'), 1);
        for (int text : new int[] {-1, 3, LEAST, MOST}) due("no such text", x.type(text, '1'), BAD);
        due("two so far", x.type(0, '1'), 3);
        for (int n = 4; n <= 15; n++) x.type(0, '1');
        due("full", x.type(0, '1'), FULL);
        due("bad ahead of full", x.type(0, 256), BAD);
    }

    private static void wipe() {
        says("A text is empty: how many bytes it had. BAD.");
        for (int text = 0; text < 3; text++) {
            PoundVotes x = with(FULL_TEXTS[0], FULL_TEXTS[1], FULL_TEXTS[2]);
            due("a full one", x.wipe(text), MOST_BYTES[text]);
            due("an empty one", x.wipe(text), 0);
            due("it is empty", x.undo(text), NOT);
            for (int other = 0; other < 3; other++) if (other != text) due("others", x.wipe(other), MOST_BYTES[other]);
            for (int none : new int[] {-1, 3, LEAST, MOST}) due("no such text", x.wipe(none), BAD);
            typed(x, text, "1");
            due("from the start again", x.wipe(text), 1);
        }
    }

    private static void undo() {
        says("The last byte of a text is undone: how many are left. BAD; NOT: it is empty.");
        for (int text = 0; text < 3; text++) {
            PoundVotes x = withText(text, FULL_TEXTS[text]);
            for (int n = MOST_BYTES[text] - 1; n >= 0; n--) due("one less", x.undo(text), n);
            due("empty", x.undo(text), NOT);
            due("still empty", x.undo(text), NOT);
            due("no byte is owed", x.type(text, '1'), 1);
            for (int none : new int[] {-1, 3, LEAST, MOST}) due("no such text", x.undo(none), BAD);
        }
        PoundVotes x = withText(0, "129");
        x.undo(0);
        x.type(0, '3');
        due("another byte in its place", x.ticket(0, 0, 2), 3);
    }

    private static void fault() {
        says("The FAULT of a text; NONE. BAD.");
        PoundVotes x = new PoundVotes();
        for (int text = 0; text < 3; text++) {
            due("none", x.fault(text), NONE);
            x.type(text, '!');
            due("the first place", x.fault(text), 0);
        }
        for (int none : new int[] {-1, 3, LEAST, MOST}) due("no such text", x.fault(none), BAD);
    }

    private static void ticket() {
        says("How great a UNIT is to be by a PARTY's ticket in a YEAR (CHANGES done). BAD.");
        PoundVotes x = withText(0, "123;456");
        x.change(5, 1, 2, 9);
        due("ahead of the change", x.ticket(4, 1, 2), 6);
        due("the change is done", x.ticket(5, 1, 2), 9);
        for (int bad : new int[] {-1, LEAST, MOST}) {
            due("year", x.ticket(bad, 0, 0), BAD);
            due("party", x.ticket(0, bad, 0), BAD);
            due("unit", x.ticket(0, 0, bad), BAD);
        }
        due("a party that there is not", x.ticket(0, 2, 0), BAD);
        x.change(0, 2, 0, 9);
        due("nor by a change", x.ticket(0, 2, 0), BAD);
        due("no parties", new PoundVotes().ticket(0, 0, 0), BAD);
    }

    private static void voter() {
        says("UNIT (what = 0), whether it is owed (1: 1, 0), how much (2) of a VOTER. BAD.");
        PoundVotes x = withText(1, "b-9");
        due("unit", x.voter(0, 0), 1);
        due("it owes", x.voter(0, 1), 0);
        due("much", x.voter(0, 2), 9);
        for (int what : new int[] {-1, 3, LEAST, MOST}) due("what", x.voter(0, what), BAD);
        for (int v : new int[] {-1, 1, 7, 8, LEAST, MOST}) due("no such voter", x.voter(v, 0), BAD);
    }

    private static void set() {
        says("LAW (what = 0), DAY (1): what it was. BAD.");
        PoundVotes x = new PoundVotes();
        for (int what : new int[] {-1, 2, LEAST, MOST}) due("what", x.set(what, 0), BAD);
        due("law", x.set(0, 1), 0);
        due("day", x.set(1, 1), 0);
        due("law", x.set(0, 2), 1);
        due("a law is no day", x.set(1, 2), BAD);
    }

    private static void purse() {
        says("PURSE (VOTER 0 to 7): what it was. BAD.");
        PoundVotes x = new PoundVotes();
        due("the first, though there are no voters", x.purse(0, 1), 100);
        due("the last", x.purse(7, 2), 100);
        due("what it was", x.purse(0, 3), 1);
        due("what it was", x.purse(7, 3), 2);
        for (int v : new int[] {-1, 8, LEAST, MOST}) due("no such voter", x.purse(v, 1), BAD);
    }

    private static void change() {
        says("A CHANGE more (PARTY 0 to 3): how many. BAD; FULL.");
        PoundVotes x = new PoundVotes();
        due("the first, though there are no parties", x.change(0, 0, 0, 9), 1);
        due("the last", x.change(0, 3, 0, 9), 2);
        for (int p : new int[] {-1, 4, LEAST, MOST}) due("no such party", x.change(0, p, 0, 9), BAD);
        due("two", x.count(3), 2);
        typed(x, 0, FULL_TEXTS[0]);
        due("it waits for its party", x.ticket(0, 3, 0), 9);
        for (int n = 3; n <= 10; n++) x.change(0, 0, 0, 1);
        due("full", x.change(0, 0, 0, 1), FULL);
        due("bad ahead of full", x.change(0, 4, 0, 1), BAD);
    }

    private static void back() {
        says("The last CHANGE (what = 0), CONTRACT (1), BILL (2) is undone: how many are left. BAD; NOT: there is none.");
        PoundVotes x = withText(0, "111");
        for (int what = 0; what < 3; what++) due("there is none", x.back(what), NOT);
        for (int what : new int[] {-1, 3, LEAST, MOST}) due("what", x.back(what), BAD);
        for (int n = 0; n < 10; n++) x.change(0, 0, 0, 9);
        for (int n = 0; n < 8; n++) x.contract(0, 1, 1, 1, 0, 1);
        for (int n = 0; n < 6; n++) x.bill(1, 1, 2);
        int[] most = {10, 8, 6};
        for (int what = 0; what < 3; what++) {
            for (int n = most[what] - 1; n >= 0; n--) due("one less", x.back(what), n);
            due("there is none", x.back(what), NOT);
            due("it is told", x.count(3 + what), 0);
        }
        due("the ticket as at first", x.ticket(0, 0, 0), 1);
        due("the money as at first", x.money(0, 9), 100);
        due("the years as at first", x.years(), 1023);
    }

    public static void main(String[] args) {
        lastCall();
        units();
        ticketBytes();
        mostParties();
        ticketFigures();
        voterBytes();
        voterSigns();
        ratioBytes();
        ratioSigns();
        ratioTells();
        firstWrongByte();
        emptyIsWell();
        notEnded();
        likeLetters();
        oneTooMany();
        faultyTickets();
        faultyVoters();
        faultyRatios();
        years();
        mostChanges();
        changeFrom();
        whichChangeCounts();
        laws();
        days();
        purses();
        newObject();
        type();
        wipe();
        undo();
        fault();
        ticket();
        voter();
        set();
        purse();
        change();
        back();
        end("all edges of texts are kept");
    }
}

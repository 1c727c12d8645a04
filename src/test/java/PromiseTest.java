/**
 * Each promise by itself: ordinary numbers, the edges that the document names, and wrong numbers.
 * Answers were worked out by hand from the document.
 */
public final class PromiseTest extends Checks {
    private static void newObject() {
        PoundVotes x = new PoundVotes();
        for (int what = 0; what <= 8; what++) due("1 count", x.count(what), 0);
        for (int s = 0; s < 4; s++) due("1 lose", x.lose(s), NULL);
        for (int v = 0; v < 8; v++) due("1 purse", x.purse(v, 0), 100);
        for (int a = 0; a < 4; a++) for (int b = 0; b < 4; b++) if (a != b) due("1 rate", x.rate(a, b, 1, 1), 11);
        due("1 another object is not touched", new PoundVotes().money(0, 9), 100);
    }

    private static void type() {
        PoundVotes x = new PoundVotes();
        int[] most = {15, 31, 31};
        for (int text = 0; text < 3; text++) {
            for (int n = 1; n <= most[text]; n++) due("2 type", x.type(text, n == 1 ? 0 : 255), n);
            due("2 full", x.type(text, 49), FULL);
            due("2 bad ahead of full", x.type(text, 256), BAD);
            due("2 below", x.type(text, -1), BAD);
            due("2 nothing changed", x.undo(text), most[text] - 1);
            due("2 room again", x.type(text, 49), most[text]);
        }
        due("2 text", x.type(-1, 49), BAD);
        due("2 text", x.type(3, 49), BAD);
        due("2 text", x.type(LEAST, MOST), BAD);
    }

    private static void wipeAndUndo() {
        PoundVotes x = with("123;456", "a+1", "ab2");
        due("3 wipe", x.wipe(0), 7);
        due("3 wipe again", x.wipe(0), 0);
        due("3 no parties", x.count(0), 0);
        due("3 others stay", x.count(1), 1);
        due("3 bad", x.wipe(3), BAD);
        due("3 bad", x.wipe(-1), BAD);
        due("4 undo", x.undo(1), 2);
        due("4 no voters", x.count(1), 0);
        due("4 undo", x.undo(1), 1);
        due("4 undo", x.undo(1), 0);
        due("4 empty", x.undo(1), NOT);
        due("4 bad", x.undo(3), BAD);
        due("4 bad", x.undo(-1), BAD);
        typed(x, 0, "999");
        due("4 old bytes are gone", x.ticket(0, 0, 0), 9);
    }

    private static void faultOf(int text, String bytes, int place) {
        PoundVotes x = new PoundVotes();
        typed(x, text, bytes);
        due("5 fault of " + bytes, x.fault(text), place);
        due("5 items of " + bytes, x.count(text), place == NONE ? (bytes.length() + 1) / 4 : 0);
    }

    private static void fault() {
        String[] well = {"123", "a+1", "ab1"};
        for (int text = 0; text < 3; text++) {
            faultOf(text, "", NONE);
            faultOf(text, well[text], NONE);
            faultOf(text, well[text] + ";" + well[text], NONE);
            faultOf(text, well[text].substring(0, 1), 1);
            faultOf(text, well[text].substring(0, 2), 2);
            faultOf(text, well[text] + ";", 4);
            faultOf(text, well[text] + "1", 3);
            faultOf(text, well[text] + ";;", 4);
            faultOf(text, well[text] + ";" + well[text].substring(0, 2), 6);
            faultOf(text, ";", 0);
            faultOf(text, well[text].substring(0, 2) + "0", 2);
            faultOf(text, well[text].substring(0, 2) + ":", 2);
            faultOf(text, well[text].substring(0, 2) + "9", NONE);
        }
        faultOf(0, "0", 0);
        faultOf(0, "10", 1);
        faultOf(0, "a", 0);
        faultOf(0, "123;123;123;123", NONE);
        faultOf(1, "d", 0);
        faultOf(1, "c-9", NONE);
        faultOf(1, "A", 0);
        faultOf(1, "`", 0);
        faultOf(1, "a,", 1);
        faultOf(1, "a*", 1);
        faultOf(1, "a1", 1);
        faultOf(1, "a+1;a+1;a+1;a+1;a+1;a+1;a+1;a+1", NONE);
        faultOf(2, "g", 0);
        faultOf(2, "fa9", NONE);
        faultOf(2, "ag", 1);
        faultOf(2, "aa", 1);
        faultOf(2, "ab1;ff", 5);
        faultOf(2, "ab1;bb2;zz", 5);
        faultOf(2, "ab1;ab1;ab1;ab1;ab1;ab1;ab1;ab1", NONE);
        due("5 bad", new PoundVotes().fault(3), BAD);
        due("5 bad", new PoundVotes().fault(-1), BAD);
    }

    private static void ticket() {
        PoundVotes x = with("123;987", "");
        due("6 ticket", x.ticket(0, 0, 0), 1);
        due("6 ticket", x.ticket(9, 0, 2), 3);
        due("6 ticket", x.ticket(5, 1, 1), 8);
        x.change(3, 1, 1, 5);
        x.change(6, 1, 1, 2);
        x.change(3, 1, 1, 4);
        x.change(0, 3, 0, 9);
        due("6 ahead of the change", x.ticket(2, 1, 1), 8);
        due("6 like years: the last told", x.ticket(3, 1, 1), 4);
        due("6 it lasts", x.ticket(5, 1, 1), 4);
        due("6 the latest year, told earlier", x.ticket(6, 1, 1), 2);
        due("6 to the end", x.ticket(9, 1, 1), 2);
        due("6 other units stay", x.ticket(9, 1, 0), 9);
        due("6 other parties stay", x.ticket(9, 0, 1), 2);
        due("6 no such party", x.ticket(0, 2, 0), BAD);
        due("6 no such party, though it is changed", x.ticket(0, 3, 0), BAD);
        due("6 party", x.ticket(0, -1, 0), BAD);
        due("6 year", x.ticket(10, 0, 0), BAD);
        due("6 year", x.ticket(-1, 0, 0), BAD);
        due("6 unit", x.ticket(0, 0, 3), BAD);
        due("6 unit", x.ticket(0, 0, -1), BAD);
        typed(x, 0, ";111;111");
        due("6 a change waits for its party", x.ticket(0, 3, 0), 9);
        typed(x, 0, "!");
        due("6 too long to be typed", x.ticket(0, 3, 1), 1);
        x.undo(0);
        due("6 with a fault no party", x.ticket(0, 0, 0), BAD);
    }

    private static void voter() {
        PoundVotes x = with("", "a+1;c-9");
        due("7 unit", x.voter(0, 0), 0);
        due("7 owed", x.voter(0, 1), 1);
        due("7 much", x.voter(0, 2), 1);
        due("7 unit", x.voter(1, 0), 2);
        due("7 owes", x.voter(1, 1), 0);
        due("7 much", x.voter(1, 2), 9);
        due("7 no such", x.voter(2, 0), BAD);
        due("7 below", x.voter(-1, 0), BAD);
        due("7 what", x.voter(0, 3), BAD);
        due("7 what", x.voter(0, -1), BAD);
    }

    private static void setAndPurse() {
        PoundVotes x = new PoundVotes();
        due("8 law", x.set(0, 2), 0);
        due("8 law", x.set(0, 1), 2);
        due("8 day", x.set(1, 1), 0);
        due("8 day", x.set(1, 0), 1);
        due("8 law bad", x.set(0, 3), BAD);
        due("8 law bad", x.set(0, -1), BAD);
        due("8 day bad", x.set(1, 2), BAD);
        due("8 day bad", x.set(1, -1), BAD);
        due("8 what", x.set(2, 0), BAD);
        due("8 what", x.set(-1, 0), BAD);
        due("8 stays", x.count(6), 1);
        due("8 stays", x.count(7), 0);
        due("9 purse", x.purse(7, 999), 100);
        due("9 purse", x.purse(7, 0), 999);
        due("9 bad", x.purse(7, 1000), BAD);
        due("9 bad", x.purse(7, -1), BAD);
        due("9 bad", x.purse(8, 5), BAD);
        due("9 bad", x.purse(-1, 5), BAD);
        due("9 stays", x.money(7, 0), 0);
    }

    private static void changeAndBack() {
        PoundVotes x = with("123;456", "");
        for (int n = 1; n <= 10; n++) due("10 change", x.change(n - 1, n % 4, n % 3, n > 9 ? 9 : n), n);
        due("10 full", x.change(0, 0, 0, 1), FULL);
        due("10 bad ahead of full", x.change(10, 0, 0, 1), BAD);
        due("10 party", x.change(0, 4, 0, 1), BAD);
        due("10 party", x.change(0, -1, 0, 1), BAD);
        due("10 year", x.change(-1, 0, 0, 1), BAD);
        due("10 unit", x.change(0, 0, 3, 1), BAD);
        due("10 unit", x.change(0, 0, -1, 1), BAD);
        due("10 figure", x.change(0, 0, 0, 0), BAD);
        due("10 figure", x.change(0, 0, 0, 10), BAD);
        due("10 how many", x.count(3), 10);
        for (int n = 9; n >= 0; n--) due("11 back", x.back(0), n);
        due("11 undone", x.ticket(9, 1, 1), 5);
        due("11 none", x.back(0), NOT);
        due("11 none", x.back(1), NOT);
        due("11 none", x.back(2), NOT);
        due("11 bad", x.back(3), BAD);
        due("11 bad", x.back(-1), BAD);
        x.change(0, 0, 0, 9);
        x.change(0, 0, 0, 8);
        due("11 changed", x.ticket(0, 0, 0), 8);
        x.back(0);
        due("11 the last alone", x.ticket(0, 0, 0), 9);
        x.contract(0, 1, 50, 0, 0, 1);
        x.bill(1, 0, 1);
        due("11 a contract", x.money(0, 1), 100 - 450);
        due("11 a contract back", x.back(1), 0);
        due("11 a contract undone", x.money(0, 1), 100);
        due("11 a bill", x.years(), 0);
        due("11 a bill back", x.back(2), 0);
        due("11 a bill undone", x.years(), 1023);
    }

    private static void wholeTicket() {
        PoundVotes x = with("511;911;151", "a+1;b+1;c+1");
        // a+1 likes 1, b+1 likes 2, c+1 finds all alike: the least, then the old one.
        due("12 a tie to the least", x.elected(0, 0), 0);
        due("14 votes", x.votes(0, 0, 0), 1);
        due("14 votes", x.votes(0, 1, 1), 1);
        due("14 votes", x.votes(0, 2, 2), 1);
        due("13 great", x.great(0, 0), 5);
        x.change(1, 0, 2, 2);
        x.change(1, 2, 2, 3);
        due("12 year 1: c+1 turns to 2", x.elected(1, 2), 2);
        due("13 whole ticket", x.great(1, 1), 5);
        due("13 whole ticket", x.great(1, 2), 3);
        x.change(2, 2, 2, 1);
        x.change(2, 0, 2, 1);
        due("12 like ones: the old one", x.elected(2, 0), 2);
        due("14 of like ones it votes for the old one", x.votes(2, 0, 2), 2);
        due("12 it stays", x.elected(9, 0), 2);
        x.change(3, 0, 0, 9);
        x.wipe(1);
        typed(x, 1, "a+1;b+1");
        due("12 votes tied, least", x.elected(0, 0), 1);
        due("12 votes tied, the old one among them", x.elected(2, 0), 1);
        due("14 the old one is among the like ones", x.votes(3, 0, 1), 1);
        x.wipe(1);
        due("12 no voters: the least", x.elected(4, 0), 0);
        due("14 no votes", x.votes(4, 0, 0), 0);
        x.wipe(0);
        due("12 no parties", x.elected(0, 0), NONE);
        due("13 no parties", x.great(0, 0), 1);
        due("14 no parties", x.votes(0, 0, 0), BAD);
    }

    private static void unitByUnit() {
        PoundVotes x = with("591;951", "a+2;b-3;b-1");
        x.set(0, 1);
        due("12 unit a", x.elected(0, 0), 1);
        due("12 unit b", x.elected(0, 1), 1);
        due("12 unit c without voters", x.elected(0, 2), 0);
        due("13 of the ticket of who is elected", x.great(0, 0), 9);
        due("13", x.great(0, 1), 5);
        due("13", x.great(0, 2), 1);
        due("14 of the unit alone", x.votes(0, 0, 1), 1);
        due("14 of the unit alone", x.votes(0, 1, 1), 2);
        due("14 of the unit alone", x.votes(0, 1, 0), 0);
        due("14 none", x.votes(0, 2, 0), 0);
        x.change(4, 0, 0, 9);
        x.change(4, 0, 1, 4);
        due("12 like ones: the old one of the unit", x.elected(4, 0), 1);
        due("12 other units by themselves", x.elected(4, 1), 0);
        due("13", x.great(4, 1), 4);
        due("12 behind", x.elected(9, 1), 0);
    }

    private static void approval() {
        PoundVotes x = with("311;511;711", "a+1;a-1;b+1");
        x.set(0, 2);
        due("14 the mean itself is no worse", x.votes(0, 0, 1), 3);
        due("14", x.votes(0, 1, 0), 2);
        due("14", x.votes(0, 2, 2), 2);
        due("12 most", x.elected(0, 0), 1);
        due("14 as much as by the old one", x.votes(1, 0, 1), 3);
        due("14", x.votes(1, 0, 0), 2);
        x.change(2, 0, 0, 9);
        x.change(2, 2, 0, 5);
        due("14 by this year's tickets", x.votes(2, 0, 0), 2);
        due("14 all like", x.votes(2, 0, 2), 3);
        due("12 the old one", x.elected(2, 0), 1);
        x.change(3, 0, 1, 9);
        x.change(3, 0, 0, 5);
        due("12 still a tie", x.elected(3, 1), 1);
        x.change(3, 1, 1, 2);
        due("14 not those who lose by it", x.votes(3, 0, 2), 2);
        due("12 all vote for the old one: it stays", x.elected(3, 2), 1);
        due("13", x.great(3, 1), 2);
    }

    private static void wrongYears() {
        PoundVotes x = with("111;222", "a+1");
        int[] bad = {-1, 10, LEAST, MOST};
        for (int v : bad) {
            due("12 year", x.elected(v, 0), BAD);
            due("13 year", x.great(v, 0), BAD);
            due("14 year", x.votes(v, 0, 0), BAD);
            due("17 year", x.money(0, v), -100002);
            due("17 voter", x.money(v, 0), -100002);
        }
        int[] units = {-1, 3, LEAST, MOST};
        for (int v : units) {
            due("12 unit", x.elected(0, v), BAD);
            due("13 unit", x.great(0, v), BAD);
            due("14 unit", x.votes(0, v, 0), BAD);
            due("14 party", x.votes(0, 0, v), BAD);
        }
        due("14 party", x.votes(0, 0, 2), BAD);
        due("17 voter", x.money(8, 0), -100002);
    }

    private static void split() {
        PoundVotes x = with("19;", "");
        due("15 no parties", x.split(), 0);
        x = with("111;991", "a+1;b-1;b-1");
        // LAW 0: party 0 by two votes; LAW 1: a by party 1, b by party 0.
        due("15 all years", x.split(), 1023);
        x.set(0, 2);
        due("15 whatever the law", x.split(), 1023);
        x.change(4, 1, 0, 1);
        due("15 till both are as great", x.split(), 15);
        x.change(6, 1, 0, 2);
        due("15 and again", x.split(), 15 | 1023 - 63);
        x = with("111;111", "a+1;b-1");
        due("15 alike", x.split(), 0);
    }

    private static void contract() {
        PoundVotes x = new PoundVotes();
        due("16 from", x.contract(8, 0, 1, 0, 0, 1), BAD);
        due("16 from", x.contract(-1, 0, 1, 0, 0, 1), BAD);
        due("16 to", x.contract(0, 8, 1, 0, 0, 1), BAD);
        due("16 to", x.contract(0, -1, 1, 0, 0, 1), BAD);
        due("16 like", x.contract(3, 3, 1, 0, 0, 1), BAD);
        due("16 much", x.contract(0, 1, 0, 0, 0, 1), BAD);
        due("16 much", x.contract(0, 1, 100, 0, 0, 1), BAD);
        due("16 unit", x.contract(0, 1, 1, 3, 0, 1), BAD);
        due("16 unit", x.contract(0, 1, 1, -1, 0, 1), BAD);
        due("16 made", x.contract(0, 1, 1, 0, -1, 1), BAD);
        due("16 made", x.contract(0, 1, 1, 0, 10, 11), BAD);
        due("16 due", x.contract(0, 1, 1, 0, 0, 10), BAD);
        due("16 due at once", x.contract(0, 1, 1, 0, 5, 5), BAD);
        due("16 due earlier", x.contract(0, 1, 1, 0, 5, 4), BAD);
        due("16 none so far", x.count(4), 0);
        for (int n = 1; n <= 8; n++) due("16 contract", x.contract(0, 7, 99, 2, 8, 9), n);
        due("16 full", x.contract(0, 7, 1, 0, 0, 1), FULL);
        due("16 bad ahead of full", x.contract(0, 0, 1, 0, 0, 1), BAD);
        due("17 all of them", x.money(0, 9), 100 - 8 * 99);
        due("17 ahead", x.money(0, 8), 100);
        due("17 the other", x.money(7, 9), 100 + 8 * 99);
    }

    private static void moneyAndRuin() {
        PoundVotes x = with("234", "a+1");
        x.change(3, 0, 0, 9);
        x.contract(0, 1, 10, 0, 1, 3);
        x.contract(1, 2, 40, 1, 0, 2);
        x.contract(1, 0, 30, 2, 0, 3);
        due("17 by the day it was made", x.money(0, 3), 100 - 20 + 120);
        due("17", x.money(1, 2), 100 - 120);
        due("17", x.money(1, 3), 100 - 120 + 20 - 120);
        due("17", x.money(2, 9), 220);
        due("17 a voter that is not in the text", x.money(7, 9), 100);
        due("18 who", x.ruined(0), 1);
        due("18 when", x.ruined(1), 2);
        due("19 worst", x.worst(0), 70);
        due("19 no odds", x.worst(1), 0);
        due("19 no such", x.worst(3), BAD);
        due("19 below", x.worst(-1), BAD);
        x.set(1, 1);
        due("17 by the due day", x.money(0, 3), 100 - 90 + 120);
        due("19 whatever the day", x.worst(0), 70);
        x.purse(1, 120);
        due("18 none left is no ruin", x.ruined(0), 1);
        due("18 later", x.ruined(1), 3);
        x.purse(1, 150);
        due("18 by order in a year", x.ruined(1), NONE);
        x.purse(0, 80);
        due("18 right behind a contract, though it is owed more", x.ruined(0), 0);
        due("18", x.ruined(1), 3);
        due("17 it has enough in the end", x.money(0, 3), 80 - 90 + 120);
        x.back(1);
        due("18 bad", x.ruined(2), BAD);
        due("18 bad", x.ruined(-1), BAD);
        due("18 none", new PoundVotes().ruined(0), NONE);
        due("18 none", new PoundVotes().ruined(1), NONE);
        x.change(3, 0, 1, 8);
        x.contract(2, 3, 10, 1, 2, 3);
        due("19 right behind a change", x.worst(2), 50);
        x.back(0);
        due("19 right behind its undoing", x.worst(2), 0);
        PoundVotes y = with("911;191", "a+1;b+2");
        y.contract(0, 1, 5, 1, 0, 9);
        due("17 by the law", y.money(0, 9), 95);
        y.set(0, 1);
        due("17 by the law", y.money(0, 9), 55);
    }

    private static void rest() {
        PoundVotes x = with("111;999", "a+1;a+1;a-1");
        due("20 as they would", x.rest(1 + 4), 1);
        due("20 one alone turns it", x.rest(1), 0);
        due("20 none alone turns it", x.rest(0), 1);
        due("20 all for what only one likes not", x.rest(1 + 4 + 16), 1);
        due("20 the debtor could turn it", x.rest(1 + 16), 0);
        due("20 others aside", x.rest(5 + 64 * 63), 1);
        due("20 no such party", x.rest(2), BAD);
        due("20 no such party", x.rest(3 * 16), BAD);
        due("20 row", x.rest(-1), BAD);
        due("20 row", x.rest(4096), BAD);
        // 0 0 0, 1 1 0 and 1 1 1: in all other rows one of them alone can turn it, and would.
        due("21 rests", x.rests(), 3);
        x.set(0, 1);
        due("21 whatever the law", x.rests(), 3);
        x.change(1, 0, 0, 9);
        due("21 year 0 alone", x.rests(), 3);
        x.change(0, 0, 0, 9);
        due("21 no odds: all rows", x.rests(), 8);
        x.wipe(1);
        due("20 no voters", x.rest(4095), 1);
        due("21 no voters: the one row", x.rests(), 1);
        x.wipe(0);
        due("20 no parties", x.rest(0), NOT);
        due("20 bad ahead of not", x.rest(4096), BAD);
        due("21 no parties", x.rests(), 0);
        PoundVotes y = with("111;999", "a+1;a+1;a+1;a+1;a-1;a-1;a-1;a-1");
        due("20 the seventh and eighth vote as they do", y.rest(1 + 4 + 16 + 64), 1);
        due("20 a tie is the first party's", y.rest(1 + 4 + 16 + 64 + 256), 0);
        due("20 no fourth party", y.rest(4095), BAD);
        int before = y.rests();
        y.change(1, 0, 0, 9);
        y.change(1, 1, 0, 1);
        due("20 year 0 alone", y.rest(1 + 4 + 16 + 64), 1);
        due("21 year 0 alone", y.rests(), before);
    }

    private static void wins() {
        PoundVotes x = with("333;555", "a+1;a+1;b+1");
        due("22 nearest", x.wins(0, 0), 533);
        due("22 how unlike", x.wins(0, 1), 2);
        due("22 its own", x.wins(1, 0), 555);
        due("22 its own", x.wins(1, 1), 0);
        x.change(0, 0, 0, 4);
        due("22 by the changed ticket", x.wins(0, 1), 1);
        x.change(1, 0, 0, 9);
        due("22 year 0", x.wins(0, 1), 1);
        x.set(0, 1);
        due("22 law 0", x.wins(0, 0), 533);
        due("22 no such", x.wins(2, 0), BAD);
        due("22 below", x.wins(-1, 0), BAD);
        due("22 what", x.wins(0, 2), BAD);
        due("22 what", x.wins(0, -1), BAD);
        x = with("911;211", "a+1");
        due("22 none: a tie is the other's", x.wins(1, 0), NONE);
        due("22 none", x.wins(1, 1), NONE);
        x = with("551;551", "a+1;b+1;c+1;c+1;c-1;c-1");
        due("22 amounts together", x.wins(1, 0), 662);
        due("22 amounts together", x.wins(1, 1), 3);
        x = with("555;655;565", "a+1;b+1");
        due("22 of like ones the least", x.wins(0, 0), 565);
        due("22 of like ones the least", x.wins(0, 1), 1);
        due("22 no parties", new PoundVotes().wins(0, 0), BAD);
        due("22 the greatest figure", with("811;111", "a+1").wins(1, 0), 911);
        due("22 the greatest figure", with("181;111", "b+1").wins(1, 0), 191);
        due("22 the greatest figure", with("118;111", "c+1").wins(1, 1), 8);
        due("22 the least figure", with("211;911", "a-1").wins(1, 0), 111);
        due("22 the least figure", with("121;191", "b-1").wins(1, 0), 111);
        due("22 the least figure", with("112;119", "c-1").wins(1, 1), 8);
        x = with("444;333", "a+1;b+1;c+1");
        for (int unit = 0; unit < 3; unit++) {
            x.change(1, 0, unit, 9);
            x.change(1, 1, unit, 8);
        }
        due("22 year 0 alone", x.wins(1, 0), 355);
        due("22 year 0 alone", x.wins(1, 1), 4);
    }

    private static void hedge() {
        PoundVotes x = with("123;222", "a-3;b+1;c-2;a+1");
        due("23 it owes so much: it holds so much", x.hedge(0), 300);
        due("23 nothing to do", x.hedge(1), 0);
        due("23 less of two units than of one", x.hedge(2), 2);
        // a+1: 1 or 2; with one c more: 4 or 4.
        due("23 another unit", x.hedge(3), 1);
        due("23 no such", x.hedge(4), BAD);
        due("23 below", x.hedge(-1), BAD);
        x.change(1, 0, 0, 9);
        due("23 year 0", x.hedge(0), 300);
        x.change(0, 0, 0, 2);
        due("23 changed", x.hedge(0), 0);
        x = with("119;111", "c+1");
        due("23 none", x.hedge(0), NONE);
        x = with("211;121", "c+1;a+1;b-9");
        due("23 alike without", x.hedge(0), 0);
        due("23", x.hedge(1), 10);
        due("23", x.hedge(2), 90);
        due("23 of like ones the least", with("221;111", "a-1").hedge(0), 10);
        due("23 nine", with("911;111", "a-9").hedge(0), 900);
        due("23 nine", with("191;111", "b-9").hedge(0), 90);
        due("23 nine", with("119;111", "c-9").hedge(0), 9);
        due("23 more than nine", with("111;191", "b+9").hedge(0), NONE);
        x = with("211;122", "a+1");
        for (int unit = 0; unit < 3; unit++) x.change(1, 1, unit, 9 - unit);
        due("23 year 0 alone", x.hedge(0), 1);
        due("23 one party", with("123", "a+9").hedge(0), 0);
        due("23 no parties", with("", "a+9").hedge(0), 0);
    }

    private static void worth() {
        PoundVotes x = with("", "", "ab2;bc3;ad4;ef9;ac7;db1");
        due("24 forth", x.worth(0, 1, 0), 2);
        due("24 forth", x.worth(0, 1, 1), 1);
        due("24 back", x.worth(1, 0, 0), 1);
        due("24 back", x.worth(1, 0, 1), 2);
        due("24 on and on", x.worth(0, 2, 0), 6);
        due("24 lowest terms", x.worth(1, 3, 0), 2);
        due("24 lowest terms", x.worth(1, 3, 1), 1);
        due("24 lowest terms", x.worth(3, 2, 0), 3);
        due("24 lowest terms", x.worth(3, 2, 1), 2);
        due("24 apart", x.worth(0, 4, 0), LONG_NOT);
        due("24 by itself", x.worth(5, 4, 1), 9);
        due("24 in itself", x.worth(2, 2, 0), LONG_BAD);
        due("24 bad", x.worth(6, 0, 0), LONG_BAD);
        due("24 bad", x.worth(-1, 0, 0), LONG_BAD);
        due("24 bad", x.worth(0, 6, 0), LONG_BAD);
        due("24 bad", x.worth(0, -1, 0), LONG_BAD);
        due("24 bad", x.worth(0, 4, 2), LONG_BAD);
        due("24 bad", x.worth(0, 1, -1), LONG_BAD);
        due("25 first", x.clash(), 4);
        due("26 the least bits, not those that clash first", x.drop(), 1 + 2);
        x = with("", "", "ab9;bc9;cd9;de9;ef9;fa1");
        due("24 greatest", x.worth(0, 5, 0), 59049);
        due("24 greatest", x.worth(5, 0, 1), 59049);
        due("25 around", x.clash(), 5);
        due("26 the least bits", x.drop(), 1);
    }

    private static void clashAndDrop() {
        PoundVotes x = new PoundVotes();
        due("25 none", x.clash(), NONE);
        due("26 none", x.drop(), 0);
        x = with("", "", "ab2;ab2;ba1;ab3;ab3;ab3");
        due("25 the first that tells otherwise", x.clash(), 2);
        due("26 the most that agree are kept", x.drop(), 1 + 2 + 4);
        due("24 by those ahead", x.worth(0, 1, 0), 2);
        x = with("", "", "ab1;ab2;ab3;ab4;ab5;ab6;ab7;ab8");
        due("26 all but the last", x.drop(), 127);
        x = with("", "", "ab2;cb2;ac1");
        due("25 it agrees", x.clash(), NONE);
        due("26 nothing", x.drop(), 0);
        x.undo(2);
        due("25 a fault: none", x.clash(), NONE);
        due("26 a fault: none", x.drop(), 0);
    }

    private static void rateAndRound() {
        PoundVotes x = new PoundVotes();
        due("27 rate", x.rate(0, 3, 9, 1), 11);
        due("27 what it was", x.rate(0, 3, 1, 2), 91);
        due("27 the other way is its own", x.rate(3, 0, 1, 1), 11);
        due("27 to itself", x.rate(1, 1, 1, 1), BAD);
        due("27 from", x.rate(4, 1, 1, 1), BAD);
        due("27 from", x.rate(-1, 1, 1, 1), BAD);
        due("27 to", x.rate(1, 4, 1, 1), BAD);
        due("27 to", x.rate(1, -1, 1, 1), BAD);
        due("27 above", x.rate(0, 3, 0, 1), BAD);
        due("27 above", x.rate(0, 3, 10, 1), BAD);
        due("27 below", x.rate(0, 3, 1, 0), BAD);
        due("27 below", x.rate(0, 3, 1, 10), BAD);
        due("27 stays", x.rate(0, 3, 1, 1), 12);
        due("28 none gains", x.round(-2), 1);
        due("28 none gains", x.round(-1), 1);
        for (int i = 0; i < 4; i++) due("28 none gains", x.round(i), NONE);
        due("28 bad", x.round(-3), BAD);
        due("28 bad", x.round(4), BAD);
        x.rate(3, 1, 6, 4);
        due("28 lowest terms", x.round(-2), 3);
        due("28 lowest terms", x.round(-1), 2);
        due("28 the fewest, from its least", x.round(0), 1);
        due("28", x.round(1), 3);
        due("28", x.round(2), NONE);
        x.rate(1, 3, 1, 9);
        // 3 to 1 is to be used, and not 1 to 3: 0 3 1 ahead of 1 2 3, which would need 1 to 3 no more.
        due("28 three towns, the least", x.round(0), 0);
        due("28", x.round(1), 3);
        due("28", x.round(2), 1);
        due("28", x.round(3), NONE);
        x.rate(1, 0, 2, 1);
        x.rate(0, 2, 2, 1);
        x.rate(2, 3, 2, 1);
        due("28 four towns", x.round(-2), 12);
        due("28", x.round(-1), 1);
        due("28", x.round(1), 2);
        due("28", x.round(2), 3);
        due("28", x.round(3), 1);
    }

    private static void billAndYears() {
        PoundVotes x = with("234", "a+1");
        due("30 no bills", x.years(), 1023);
        x.change(5, 0, 0, 9);
        due("29 bill", x.bill(9, 0, 81), 1);
        due("30 from the change on", x.years(), 1023 - 31);
        due("29 bill", x.bill(3, 2, 12), 2);
        due("30 both", x.years(), 1023 - 31);
        x.change(8, 0, 2, 1);
        due("30 till the other", x.years(), 32 + 64 + 128);
        for (int n = 3; n <= 6; n++) due("29 bill", x.bill(1, 1, n == 6 ? 99 : 3), n);
        due("30 one that never holds", x.years(), 0);
        due("29 full", x.bill(1, 1, 1), FULL);
        due("29 bad ahead of full", x.bill(0, 1, 1), BAD);
        due("29 much", x.bill(10, 1, 1), BAD);
        due("29 unit", x.bill(1, 3, 1), BAD);
        due("29 unit", x.bill(1, -1, 1), BAD);
        due("29 paid", x.bill(1, 1, 0), BAD);
        due("29 paid", x.bill(1, 1, 100), BAD);
        PoundVotes y = with("911;191", "a+1;b+2");
        y.bill(1, 1, 9);
        due("30 by the law", y.years(), 0);
        y.set(0, 1);
        due("30 by the law", y.years(), 1023);
    }

    private static void sheetAndLose() {
        PoundVotes x = new PoundVotes();
        due("31 sheet", x.sheet(0, 0, 60), 60);
        due("31 above", x.sheet(0, 0, 61), BAD);
        due("31 no sheet", x.sheet(4, 0, 1), BAD);
        due("31 no sheet", x.sheet(-1, 0, -1), BAD);
        due("31 no form", x.sheet(0, 3, 1), BAD);
        due("31 no form", x.sheet(0, -1, -1), BAD);
        due("38 no finding so far", x.count(8), 0);
        due("31 below", x.sheet(0, 0, -1), SIZE);
        due("31 below", x.sheet(0, 0, LEAST), SIZE);
        due("38 size", x.count(8), 5);
        due("31 it is as it was", x.lay(0, 0, 59, 7), 1);
        due("31 anew", x.sheet(0, 0, 60), 60);
        due("31 items are 0", x.get(0, 0, 59), 0);
        due("31 none", x.sheet(3, 2, 0), 0);
        due("32 lose", x.lose(0), 60);
        due("32 lose", x.lose(3), 0);
        due("32 lost", x.lose(3), NULL);
        due("38 null", x.count(8), 1);
        due("32 bad", x.lose(4), BAD);
        due("32 bad", x.lose(-1), BAD);
    }

    private static void layAndGet() {
        PoundVotes x = new PoundVotes();
        due("33 lost ahead of all", x.lay(0, 2, 99, 0), NULL);
        for (int form = 0; form < 3; form++) x.sheet(form, form, 3);
        int v = 0x12348F80;
        for (int form = 0; form < 3; form++) due("33 lay", x.lay(form, form, 2, v), 1);
        due("34 a byte", x.get(0, 0, 2), (byte) v);
        due("34 a short", x.get(1, 1, 2), (short) v);
        due("34 an int", x.get(2, 2, 2), v);
        due("34 others", x.get(2, 2, 1), 0);
        due("33 cast ahead of index", x.lay(0, 1, 3, 1), CAST);
        due("33 index", x.lay(0, 0, 3, 1), INDEX);
        due("33 index", x.lay(0, 0, -1, 1), INDEX);
        due("33 bad", x.lay(4, 0, 0, 1), BAD);
        due("33 bad", x.lay(-1, 0, 0, 1), BAD);
        due("33 bad ahead of null", x.lay(3, 3, 0, 1), BAD);
        due("33 bad", x.lay(0, -1, 0, 1), BAD);
        due("38 index", x.count(8), 2);
        due("34 cast", x.get(0, 2, 0), LEAST);
        due("38 cast", x.count(8), 3);
        due("34 null", x.get(3, 2, 0), LEAST);
        due("38 null", x.count(8), 1);
        due("34 bad", x.get(4, 0, 0), LEAST);
        due("34 bad", x.get(0, 3, 0), LEAST);
        due("34 bad", x.get(-1, -1, -1), LEAST);
        due("38 bad is no finding", x.count(8), 1);
        due("34 index", x.get(2, 2, 3), LEAST);
        due("38 index", x.count(8), 2);
        due("34 index", x.get(2, 2, -1), LEAST);
    }

    private static void copy() {
        PoundVotes x = new PoundVotes();
        due("35 null", x.copy(0, 0, 1, 0, 0), NULL);
        x.sheet(0, 1, 5);
        due("35 null of the second", x.copy(0, 0, 1, 0, 0), NULL);
        due("35 null of the first", x.copy(1, 0, 0, 0, 0), NULL);
        for (int i = 0; i < 5; i++) x.lay(0, 1, i, i + 1);
        due("35 onto itself, later", x.copy(0, 0, 0, 1, 4), 1);
        for (int i = 0; i < 5; i++) due("35 as they were", x.get(0, 1, i), i == 0 ? 1 : i);
        due("35 onto itself, earlier", x.copy(0, 2, 0, 0, 3), 1);
        due("35", x.get(0, 1, 0), 2);
        due("35", x.get(0, 1, 2), 4);
        due("35", x.get(0, 1, 3), 3);
        x.sheet(1, 1, 2);
        due("35 to another", x.copy(0, 1, 1, 0, 2), 1);
        due("35 to another", x.get(1, 1, 0), 3);
        due("35 not so many there", x.copy(0, 0, 1, 0, 3), INDEX);
        due("35 not so many here", x.copy(1, 1, 0, 0, 2), INDEX);
        due("35 none at the end", x.copy(0, 5, 1, 2, 0), 1);
        due("35 none behind the end", x.copy(0, 6, 1, 0, 0), INDEX);
        due("35 below", x.copy(0, -1, 1, 0, 1), INDEX);
        due("35 below", x.copy(0, 0, 1, -1, 1), INDEX);
        due("35 below", x.copy(0, 0, 1, 0, -1), INDEX);
        due("35 sums that wrap", x.copy(0, MOST, 1, 0, MOST), INDEX);
        due("35 sums that wrap", x.copy(0, 1, 1, 0, MOST), INDEX);
        due("35 sums that wrap", x.copy(0, LEAST, 1, LEAST, LEAST), INDEX);
        x.sheet(2, 0, 5);
        due("35 store ahead of index", x.copy(0, 9, 2, 9, 9), STORE);
        due("38 store", x.count(8), 4);
        due("35 bad ahead of null", x.copy(3, 0, 4, 0, 0), BAD);
        due("35 bad", x.copy(-1, 0, 0, 0, 0), BAD);
        due("35 bad", x.copy(4, 0, 0, 0, 0), BAD);
        due("35 bad", x.copy(0, 0, -1, 0, 0), BAD);
    }

    private static void readAndWrite() {
        PoundVotes x = with("234", "a+1");
        due("36 null", x.read(0), NULL);
        due("36 bad", x.read(4), BAD);
        due("36 bad", x.read(-1), BAD);
        x.sheet(0, 2, 60);
        for (int i = 0; i < 60; i++) x.lay(0, 2, i, 10 * i);
        due("36 eight at most", x.read(0), 8);
        due("36 purses", x.money(7, 0), 70);
        x.lay(0, 2, 0, 999);
        x.lay(0, 2, 1, 1000);
        due("36 as long as each may be", x.read(0), 1);
        due("36 the first", x.money(0, 0), 999);
        due("36 no more", x.money(1, 0), 10);
        x.lay(0, 2, 0, -1);
        due("36 none", x.read(0), 0);
        x.sheet(1, 0, 3);
        due("36 as many as there are", x.read(1), 3);
        x.contract(0, 1, 99, 2, 0, 4);
        due("37 write", x.write(3, 1), 3);
        due("37 behind the year", x.get(1, 0, 0), 0);
        due("37 write", x.write(4, 1), 3);
        due("37 the lowest bits", x.get(1, 0, 0), (byte) -396);
        due("37 eight at most", x.write(9, 0), 8);
        due("37", x.get(0, 2, 1), 396);
        due("37", x.get(0, 2, 7), 70);
        due("37 others stay", x.get(0, 2, 8), 80);
        x.change(0, 0, 2, 9);
        due("37 right behind a change", x.write(4, 0), 8);
        due("37 right behind a change", x.get(0, 2, 1), 99 * 9);
        due("37 null", x.write(0, 3), NULL);
        due("37 bad ahead of null", x.write(10, 3), BAD);
        due("37 bad", x.write(-1, 0), BAD);
        due("37 bad", x.write(0, 4), BAD);
        due("37 bad", x.write(0, -1), BAD);
        x.sheet(2, 1, 0);
        due("37 no items", x.write(0, 2), 0);
        due("36 no items", x.read(2), 0);
    }

    private static void count() {
        PoundVotes x = with("123;456;789", "a+1;b-2", "ab2");
        x.change(0, 0, 0, 1);
        x.contract(0, 1, 1, 0, 0, 1);
        x.contract(0, 1, 1, 0, 0, 1);
        x.bill(1, 0, 1);
        x.bill(1, 0, 1);
        x.bill(1, 0, 1);
        x.set(0, 2);
        x.set(1, 1);
        x.lose(0);
        int[] want = {3, 2, 1, 1, 2, 3, 2, 1, 1};
        for (int what = 0; what <= 8; what++) due("38 count " + what, x.count(what), want[what]);
        due("38 bad", x.count(9), BAD);
        due("38 bad", x.count(-1), BAD);
    }

    private static void digest() {
        PoundVotes x = with("912;345;581;155", "a+5;a-3;b+2;c-9;b-1", "ab3;ef7;ba2");
        due("39 right behind the typing", x.digest(), digestOf(x));
        x.contract(0, 1, 50, 0, 1, 2);
        x.change(1, 0, 0, 3);
        x.rate(1, 2, 7, 2);
        x.bill(2, 1, 8);
        long before = x.digest();
        due("39 behind acts", before, digestOf(x));
        due("39 it changes nothing", x.digest(), before);
        x.lose(0);
        due("39 a finding is not told", x.digest(), before);
        due("39 it makes no finding", x.count(8), 1);
        due("39 of a new object", new PoundVotes().digest(), digestOf(new PoundVotes()));
    }

    public static void main(String[] args) {
        newObject();
        type();
        wipeAndUndo();
        fault();
        ticket();
        voter();
        setAndPurse();
        changeAndBack();
        wholeTicket();
        unitByUnit();
        approval();
        wrongYears();
        split();
        contract();
        moneyAndRuin();
        rest();
        wins();
        hedge();
        worth();
        clashAndDrop();
        rateAndRound();
        billAndYears();
        sheetAndLose();
        layAndGet();
        copy();
        readAndWrite();
        count();
        digest();
        end("all promises are kept");
    }
}

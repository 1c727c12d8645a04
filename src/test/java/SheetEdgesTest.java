/** Edges that the document names for SHEETS, FINDINGS, count and digest: a method for each sentence or part of one. */
public final class SheetEdgesTest extends Checks {
    private static final int BYTES = 0, SHORTS = 1, INTS = 2;

    private static PoundVotes withSheet(int form, int n) {
        PoundVotes x = new PoundVotes();
        x.sheet(0, form, n);
        return x;
    }

    private static void itemsAre(String what, PoundVotes x, int s, int form, int... want) {
        for (int i = 0; i < want.length; i++) due(what + ", item " + i, x.get(s, form, i), want[i]);
    }

    private static void fill(PoundVotes x, int s, int form, int... items) {
        x.sheet(s, form, items.length);
        for (int i = 0; i < items.length; i++) x.lay(s, form, i, items[i]);
    }

    private static void sheets() {
        says("SHEETS 0 .. 3 are LOST (at first) or a row of a FORM:");
        PoundVotes x = new PoundVotes();
        for (int s = 0; s < 4; s++) {
            due("lost", x.lose(s), NULL);
            due("lost", x.lay(s, BYTES, 0, 0), NULL);
            due("lost", x.get(s, BYTES, 0), LEAST);
            due("lost", x.copy(s, 0, s, 0, 0), NULL);
            due("lost", x.read(s), NULL);
            due("lost", x.write(0, s), NULL);
        }
        for (int s = 0; s < 4; s++) due("a row", x.sheet(s, s % 3, s), s);
        for (int s = 0; s < 4; s++) due("each its own", x.lose(s), s);
        for (int s : new int[] {-1, 4, LEAST, MOST}) {
            due("no such", x.sheet(s, BYTES, 1), BAD);
            due("no such", x.lose(s), BAD);
            due("no such", x.lay(s, BYTES, 0, 0), BAD);
            due("no such", x.get(s, BYTES, 0), LEAST);
            due("no such", x.copy(s, 0, 0, 0, 0), BAD);
            due("no such", x.copy(0, 0, s, 0, 0), BAD);
            due("no such", x.read(s), BAD);
            due("no such", x.write(0, s), BAD);
        }
    }

    private static void forms() {
        says("0 bytes, 1 shorts, 2 ints, of 0 to 60 items (0 at first).");
        for (int form = 0; form < 3; form++) {
            PoundVotes x = new PoundVotes();
            due("none", x.sheet(0, form, 0), 0);
            due("none of them", x.lay(0, form, 0, 1), INDEX);
            due("sixty", x.sheet(0, form, 60), 60);
            due("one more", x.sheet(0, form, 61), BAD);
            for (int i = 0; i < 60; i++) due("0 at first", x.get(0, form, i), 0);
            for (int i = 0; i < 60; i++) due("each has its place", x.lay(0, form, i, i + 1), 1);
            for (int i = 0; i < 60; i++) due("each has its place", x.get(0, form, i), i + 1);
            due("no sixty-first", x.get(0, form, 60), LEAST);
        }
        PoundVotes x = withSheet(BYTES, 1);
        for (int form : new int[] {-1, 3, LEAST, MOST}) {
            due("no such form", x.sheet(0, form, 1), BAD);
            due("no such form", x.lay(0, form, 0, 1), BAD);
            due("no such form", x.get(0, form, 0), LEAST);
        }
        due("no finding", x.count(8), 0);
    }

    private static void findings() {
        says("FINDINGS (answers -10 less the number; they change nothing but count() 8):");
        PoundVotes x = withSheet(SHORTS, 2);
        x.lay(0, SHORTS, 0, 7);
        x.sheet(1, BYTES, 2);
        long before = x.digest();
        int[] told = {
            x.lose(3), x.count(8), x.lay(0, SHORTS, 2, 5), x.count(8), x.lay(0, INTS, 0, 5), x.count(8),
            x.copy(0, 0, 1, 0, 1), x.count(8), x.sheet(0, SHORTS, -1), x.count(8),
        };
        int[] want = {-11, 1, -12, 2, -13, 3, -14, 4, -15, 5};
        for (int i = 0; i < told.length; i++) due("finding or its number, " + i, told[i], want[i]);
        due("the digest", x.digest(), before);
        due("the items", x.get(0, SHORTS, 0), 7);
        due("the items", x.get(1, BYTES, 0), 0);
        due("still the latest", x.count(8), 5);
    }

    private static void findNull() {
        says("1 NULL: the SHEET is LOST;");
        PoundVotes x = withSheet(INTS, 0);
        due("no items are not lost", x.lose(0), 0);
        due("lost", x.lose(0), NULL);
        due("told", x.count(8), 1);
        due("a row again", x.sheet(0, INTS, 1), 1);
        due("a row again", x.get(0, INTS, 0), 0);
    }

    private static void findIndex() {
        says("2 INDEX: there is no such item;");
        for (int form = 0; form < 3; form++) {
            PoundVotes x = withSheet(form, 3);
            due("the last", x.lay(0, form, 2, 9), 1);
            for (int i : new int[] {-1, 3, 59, 60, LEAST, MOST}) {
                due("no such item", x.lay(0, form, i, 9), INDEX);
                due("no such item", x.get(0, form, i), LEAST);
            }
            due("told", x.count(8), 2);
            itemsAre("as they were", x, 0, form, 0, 0, 9);
        }
    }

    private static void findCast() {
        says("3 CAST: it has another FORM;");
        for (int form = 0; form < 3; form++) {
            for (int other = 0; other < 3; other++) {
                PoundVotes x = withSheet(form, 1);
                due("lay", x.lay(0, other, 0, 9), other == form ? 1 : CAST);
                due("get", x.get(0, other, 0), other == form ? 9 : LEAST);
                due("told", x.count(8), other == form ? 0 : 3);
                due("it has its form", x.get(0, form, 0), other == form ? 9 : 0);
            }
        }
    }

    private static void findStore() {
        says("4 STORE: unlike FORMS;");
        for (int form = 0; form < 3; form++) {
            for (int other = 0; other < 3; other++) {
                PoundVotes x = new PoundVotes();
                fill(x, 0, form, 9);
                x.sheet(1, other, 1);
                due("copy", x.copy(0, 0, 1, 0, 1), other == form ? 1 : STORE);
                due("copy of none", x.copy(0, 0, 1, 0, 0), other == form ? 1 : STORE);
                due("told", x.count(8), other == form ? 0 : 4);
                due("it came, or not", x.get(1, other, 0), other == form ? 9 : 0);
            }
        }
    }

    private static void findSize() {
        says("5 SIZE: below 0.");
        PoundVotes x = withSheet(BYTES, 1);
        x.lay(0, BYTES, 0, 9);
        due("below", x.sheet(0, INTS, -1), SIZE);
        due("far below", x.sheet(0, INTS, LEAST), SIZE);
        due("told", x.count(8), 5);
        due("it is as it was", x.get(0, BYTES, 0), 9);
        due("a lost one stays lost", x.sheet(1, INTS, -1), SIZE);
        due("a lost one stays lost", x.lose(1), NULL);
    }

    private static void sheet() {
        says("A SHEET is a new row of a FORM with n items: n. BAD: SHEET, FORM, above 60; SIZE.");
        PoundVotes x = new PoundVotes();
        fill(x, 0, BYTES, 1, 2, 3);
        due("another form", x.sheet(0, INTS, 4), 4);
        itemsAre("new", x, 0, INTS, 0, 0, 0, 0);
        x.lay(0, INTS, 3, 9);
        due("fewer", x.sheet(0, INTS, 2), 2);
        due("fewer", x.get(0, INTS, 2), LEAST);
        due("more again", x.sheet(0, INTS, 4), 4);
        itemsAre("old ones are gone", x, 0, INTS, 0, 0, 0, 0);
        x.lay(0, INTS, 3, 9);
        x.lose(0);
        x.sheet(0, INTS, 4);
        itemsAre("old ones are gone", x, 0, INTS, 0, 0, 0, 0);
        int seen = x.count(8);
        due("no sheet, ahead of size", x.sheet(4, BYTES, -1), BAD);
        due("no form, ahead of size", x.sheet(0, 3, -1), BAD);
        due("above", x.sheet(0, BYTES, 61), BAD);
        due("far above", x.sheet(0, BYTES, MOST), BAD);
        due("bad is no finding", x.count(8), seen);
        due("size", x.sheet(0, BYTES, -1), SIZE);
    }

    private static void lose() {
        says("It is LOST: how many items it had. BAD; NULL.");
        PoundVotes x = withSheet(BYTES, 60);
        x.sheet(1, INTS, 0);
        due("sixty", x.lose(0), 60);
        due("lost", x.lose(0), NULL);
        due("none", x.lose(1), 0);
        due("lost", x.lose(1), NULL);
        due("told", x.count(8), 1);
        for (int s : new int[] {-1, 4, LEAST, MOST}) due("no such", x.lose(s), BAD);
    }

    private static void lay() {
        says("Item i, treated as of a FORM, becomes v (the lowest bits that it has): 1. BAD; NULL; CAST; INDEX.");
        int[][] rows = {
            {BYTES, 127, 127}, {BYTES, 128, -128}, {BYTES, 255, -1}, {BYTES, 256, 0}, {BYTES, -128, -128},
            {BYTES, -129, 127}, {BYTES, MOST, -1}, {BYTES, LEAST, 0},
            {SHORTS, 32767, 32767}, {SHORTS, 32768, -32768}, {SHORTS, 65535, -1}, {SHORTS, 65536, 0},
            {SHORTS, -32768, -32768}, {SHORTS, -32769, 32767}, {SHORTS, MOST, -1}, {SHORTS, LEAST, 0},
            {INTS, MOST, MOST}, {INTS, LEAST, LEAST}, {INTS, 65536, 65536}, {INTS, -1, -1},
        };
        for (int[] row : rows) {
            PoundVotes x = withSheet(row[0], 3);
            due("lay", x.lay(0, row[0], 1, row[1]), 1);
            itemsAre("form " + row[0] + " of " + row[1], x, 0, row[0], 0, row[2], 0);
            due("no finding", x.count(8), 0);
        }
        PoundVotes x = withSheet(BYTES, 1);
        due("bad ahead of null", x.lay(1, 3, 9, 0), BAD);
        due("null ahead of index", x.lay(1, BYTES, 9, 0), NULL);
        due("cast ahead of index", x.lay(0, INTS, 9, 0), CAST);
        due("index", x.lay(0, BYTES, 9, 0), INDEX);
    }

    private static void get() {
        says("Item i of it. BAD: the least int; so are NULL, CAST, INDEX (count() 8 tells).");
        PoundVotes x = withSheet(INTS, 1);
        due("no such sheet", x.get(4, INTS, 0), LEAST);
        due("no such form", x.get(0, 3, 0), LEAST);
        due("bad ahead of null", x.get(1, 3, 9), LEAST);
        due("bad is no finding", x.count(8), 0);
        due("index", x.get(0, INTS, 1), LEAST);
        due("told", x.count(8), 2);
        due("cast ahead of index", x.get(0, BYTES, 1), LEAST);
        due("told", x.count(8), 3);
        due("null ahead of index", x.get(1, BYTES, 1), LEAST);
        due("told", x.count(8), 1);
        x.lay(0, INTS, 0, LEAST);
        due("an item that is the least int", x.get(0, INTS, 0), LEAST);
        due("is no finding", x.count(8), 1);
    }

    private static void copyOntoItself() {
        says("n items of SHEET s, from i on, come to SHEET t (perhaps s, as they were), from j on: 1.");
        for (int form = 0; form < 3; form++) {
            PoundVotes x = new PoundVotes();
            fill(x, 0, form, 1, 2, 3, 4, 5);
            due("later", x.copy(0, 0, 0, 2, 3), 1);
            itemsAre("later, as they were", x, 0, form, 1, 2, 1, 2, 3);
            due("earlier", x.copy(0, 1, 0, 0, 4), 1);
            itemsAre("earlier, as they were", x, 0, form, 2, 1, 2, 3, 3);
            due("in its place", x.copy(0, 0, 0, 0, 5), 1);
            itemsAre("in its place", x, 0, form, 2, 1, 2, 3, 3);
            fill(x, 1, form, 9, 9, 9);
            due("to another one", x.copy(0, 3, 1, 1, 1), 1);
            itemsAre("to another one", x, 1, form, 9, 3, 9);
            itemsAre("the first stays", x, 0, form, 2, 1, 2, 3, 3);
            due("none", x.copy(0, 0, 1, 0, 0), 1);
            itemsAre("none", x, 1, form, 9, 3, 9);
        }
    }

    private static void copyRefused() {
        says("BAD: the SHEETS; NULL: s, t; STORE; INDEX: below 0, not so many.");
        PoundVotes x = new PoundVotes();
        fill(x, 0, SHORTS, 1, 2, 3);
        fill(x, 1, SHORTS, 4, 5);
        x.sheet(2, INTS, 3);
        due("no such s, though t is lost", x.copy(4, 0, 3, 0, 0), BAD);
        due("no such t, though s is lost", x.copy(3, 0, 4, 0, 0), BAD);
        due("bad is no finding", x.count(8), 0);
        due("s is lost", x.copy(3, -1, 0, 0, 0), NULL);
        due("t is lost", x.copy(0, -1, 3, 0, 0), NULL);
        due("both are", x.copy(3, 0, 3, 0, 0), NULL);
        due("store ahead of index", x.copy(0, -1, 2, -1, -1), STORE);
        int[][] wrong = {
            {-1, 0, 1}, {0, -1, 1}, {0, 0, -1}, {0, 0, 3}, {2, 0, 2}, {0, 1, 2}, {3, 0, 1}, {0, 2, 1}, {4, 0, 0}, {0, 3, 0},
            {-1, 0, 0}, {0, -1, 0}, {MOST, 0, 1}, {0, MOST, 1}, {0, 0, MOST}, {1, 1, MOST}, {MOST, MOST, MOST},
            {LEAST, 0, 1}, {0, LEAST, 1}, {0, 0, LEAST}, {LEAST, LEAST, LEAST}, {-1, -1, MOST},
        };
        for (int[] w : wrong) due("from " + w[0] + " to " + w[1] + ", " + w[2], x.copy(0, w[0], 1, w[1], w[2]), INDEX);
        itemsAre("as they were", x, 1, SHORTS, 4, 5);
        due("none at both ends", x.copy(0, 3, 1, 2, 0), 1);
        due("just so many", x.copy(0, 1, 1, 0, 2), 1);
        itemsAre("just so many", x, 1, SHORTS, 2, 3);
    }

    private static void read() {
        says("PURSES of VOTERS 0 on by a SHEET, item by item, as long as each may be, eight at most: how many. BAD; NULL.");
        int[] most = {0, 999, 0, 999, 0, 999, 0, 999, 5, 5};
        PoundVotes x = new PoundVotes();
        fill(x, 0, SHORTS, most);
        due("eight at most", x.read(0), 8);
        for (int v = 0; v < 8; v++) due("purse", x.money(v, 0), most[v]);
        for (int bad : new int[] {-1, 1000, LEAST, MOST}) {
            for (int stop = 0; stop < 8; stop += 7) {
                x = new PoundVotes();
                fill(x, 0, INTS, 1, 2, 3, 4, 5, 6, 7, 8);
                x.lay(0, INTS, stop, bad);
                due("as long as each may be", x.read(0), stop);
                for (int v = 0; v < 8; v++) due("purse", x.money(v, 0), v < stop ? v + 1 : 100);
            }
        }
        x = withSheet(BYTES, 3);
        x.lay(0, BYTES, 1, 200);
        due("a byte of 200 is less than none", x.read(0), 1);
        x.sheet(1, BYTES, 0);
        due("no items", x.read(1), 0);
        x.sheet(1, BYTES, 8);
        due("just eight", x.read(1), 8);
        x.sheet(1, BYTES, 7);
        due("just seven", x.read(1), 7);
        due("lost", x.read(2), NULL);
        due("told", x.count(8), 1);
        for (int s : new int[] {-1, 4, LEAST, MOST}) due("no such", x.read(s), BAD);
    }

    private static void write() {
        says("MONEY of VOTERS 0 on behind a YEAR comes to a SHEET from item 0 on, as many as there are items, "
                + "eight at most: how many. BAD; NULL.");
        PoundVotes x = with("999", "a+1");
        x.contract(0, 7, 99, 0, 0, 5);
        x.sheet(0, INTS, 9);
        x.lay(0, INTS, 8, 77);
        due("eight at most", x.write(5, 0), 8);
        itemsAre("behind the year", x, 0, INTS, -791, 100, 100, 100, 100, 100, 100, 991, 77);
        due("eight at most", x.write(4, 0), 8);
        itemsAre("the year ahead", x, 0, INTS, 100, 100, 100, 100, 100, 100, 100, 100, 77);
        x.sheet(1, BYTES, 1);
        due("one item", x.write(9, 1), 1);
        itemsAre("its lowest bits", x, 1, BYTES, (byte) -791);
        x.sheet(1, SHORTS, 8);
        due("just eight", x.write(9, 1), 8);
        due("the eighth", x.get(1, SHORTS, 7), 991);
        x.sheet(1, SHORTS, 0);
        due("no items", x.write(9, 1), 0);
        due("no finding", x.count(8), 0);
        due("lost", x.write(9, 2), NULL);
        due("bad ahead of null", x.write(10, 2), BAD);
        for (int bad : new int[] {-1, 10, LEAST, MOST}) {
            due("year", x.write(bad, 0), BAD);
            due("sheet", x.write(0, bad), BAD);
        }
        due("told", x.count(8), 1);
    }

    private static void count() {
        says("0 PARTIES, 1 VOTERS, 2 RATIOS, 3 CHANGES, 4 CONTRACTS, 5 BILLS, 6 LAW, 7 DAY, "
                + "8 the number of the latest FINDING (0 before any). BAD.");
        PoundVotes x = new PoundVotes();
        for (int what = 0; what <= 8; what++) due("0 at first", x.count(what), 0);
        for (int what : new int[] {-1, 9, LEAST, MOST}) due("what", x.count(what), BAD);
        typed(x, 0, "111;222;333;444");
        typed(x, 1, EIGHT_VOTERS);
        typed(x, 2, EIGHT_RATIOS);
        for (int n = 0; n < 10; n++) x.change(0, 0, 0, 1);
        for (int n = 0; n < 8; n++) x.contract(0, 1, 1, 0, 0, 1);
        for (int n = 0; n < 6; n++) x.bill(1, 0, 1);
        x.set(0, 2);
        x.set(1, 1);
        x.sheet(0, 0, -1);
        int[] most = {4, 8, 8, 10, 8, 6, 2, 1, 5};
        for (int what = 0; what <= 8; what++) due("the most, " + what, x.count(what), most[what]);
        x.type(0, '1');
        x.type(3, '1');
        x.change(0, 0, 0, 1);
        x.wipe(0);
        x.undo(0);
        due("bad, not and full are no findings", x.count(8), 5);
        x.lose(0);
        due("the latest", x.count(8), 1);
        x.sheet(0, 0, 1);
        due("what is well is none", x.count(8), 1);
    }

    private static void digest() {
        says("h is 17; h becomes 31 h and each of: count() 0 to 7; of texts fault(); of YEARS 0, 1, 9 of UNITS elected(), "
                + "great(), of PARTIES ticket(it), votes(it); split(), of VOTERS 0 to 7 money(it, 9), hedge(it) "
                + "(as it is told); ruined() 0, 1, of CONTRACTS worst(), rest(0) (as it is told), rests(), of PARTIES "
                + "wins() 0, 1; of 1 to 5 worth(0, it), above, below (as it is told), clash(), drop(), round() -2 to 2, "
                + "years(); as longs that wrap.");
        PoundVotes x = new PoundVotes();
        due("a new object: BAD, NOT and NONE as they are told", x.digest(), digestOf(x));
        x = with("911;345;581;155", "a+5;a-3;b+2;c-9;b-1;a+1;b+1;c+1", "ab3;bc7;cd2;de1;ef5");
        due("all voters and ratios", x.digest(), digestOf(x));
        x = busy();
        due("all kinds of things", x.digest(), digestOf(x));
        due("it changes nothing", x.digest(), busy().digest());
        x = busy();
        x.type(0, ';');
        due("with a fault", x.digest(), digestOf(x));
        x.undo(0);
        due("and without", x.digest(), busy().digest());
        x = busy();
        x.set(0, 2);
        due("by another law", x.digest(), digestOf(x));
        x = with("111;211", "a+1");
        due("row 0 is no rest", x.rest(0), 0);
        due("row 0, and no other one", x.digest(), digestOf(x));
        x = with("111", "a+1");
        for (int year : new int[] {1, 2, 8, 9}) x.change(year, 0, 0, year);
        x.contract(0, 1, 50, 0, 0, 8);
        x.contract(0, 1, 10, 0, 0, 9);
        due("years 0, 1 and 9, and no other ones", x.digest(), digestOf(x));
    }

    private static PoundVotes busy() {
        PoundVotes x = with("911;345", "a+5;b-3", "ab3;ef7;ba2");
        for (int n = 0; n < 8; n++) x.contract(n % 2, 2, 99, 0, 0, n + 1);
        x.set(0, 1);
        x.set(1, 1);
        x.rate(0, 1, 9, 1);
        x.bill(9, 0, 81);
        x.change(1, 1, 0, 9);
        return x;
    }

    private static void lastCall() {
        says("An object is used for at most 512 calls after it has been made;");
        PoundVotes x = with("912;345;581;155", EIGHT_VOTERS, EIGHT_RATIOS);
        int calls = 15 + 31 + 31;
        long before = x.digest();
        for (calls++; calls < 511; calls++) due("call " + calls, x.digest(), before);
        due("the last call", x.digest(), before);
    }

    public static void main(String[] args) {
        sheets();
        forms();
        findings();
        findNull();
        findIndex();
        findCast();
        findStore();
        findSize();
        sheet();
        lose();
        lay();
        get();
        copyOntoItself();
        copyRefused();
        read();
        write();
        count();
        digest();
        lastCall();
        end("all edges of sheets are kept");
    }
}

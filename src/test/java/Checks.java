/** What the tests by hand share. */
abstract class Checks {
    static final int LEAST = Integer.MIN_VALUE, MOST = Integer.MAX_VALUE;
    static final long LONG_BAD = Long.MIN_VALUE + 2, LONG_NOT = Long.MIN_VALUE + 3;
    static final int NONE = -1, BAD = -2, NOT = -3, FULL = -4;
    static final int NULL = -11, INDEX = -12, CAST = -13, STORE = -14, SIZE = -15;
    static final String EIGHT_VOTERS = "a+1;a+1;a+1;a+1;a+1;a+1;a+1;a+1";
    static final String EIGHT_RATIOS = "ab1;ab1;ab1;ab1;ab1;ab1;ab1;ab1";
    private static String saying = "";
    private static int wrong = 0;

    /** The words of the document that the checks behind this hold it to; QuotesTest looks them up there. */
    static void says(String words) {
        saying = words;
    }

    static void due(String what, long got, long want) {
        if (got == want) return;
        wrong++;
        System.out.println(what + " answered " + got + ", due is " + want);
        if (!saying.isEmpty()) System.out.println("    by: " + saying);
    }

    static void end(String fine) {
        System.out.println(wrong == 0 ? fine : wrong + " answers are not as due");
        if (wrong != 0) System.exit(1);
    }

    static void typed(PoundVotes x, int text, String bytes) {
        for (int i = 0; i < bytes.length(); i++) x.type(text, bytes.charAt(i));
    }

    static PoundVotes with(String tickets, String voters, String ratios) {
        PoundVotes x = new PoundVotes();
        typed(x, 0, tickets);
        typed(x, 1, voters);
        typed(x, 2, ratios);
        return x;
    }

    static PoundVotes with(String tickets, String voters) {
        return with(tickets, voters, "");
    }

    static PoundVotes withRatios(String ratios) {
        return with("", "", ratios);
    }

    /** The row of the document's digest by calls of the same object. */
    static long digestOf(PoundVotes x) {
        long h = 17;
        for (int i = 0; i <= 7; i++) h = 31 * h + x.count(i);
        for (int i = 0; i <= 2; i++) h = 31 * h + x.fault(i);
        for (int year = 0; year <= 9; year = year == 1 ? 9 : year + 1) {
            for (int unit = 0; unit < 3; unit++) {
                h = 31 * (31 * h + x.elected(year, unit)) + x.great(year, unit);
                for (int p = 0; p < x.count(0); p++) {
                    h = 31 * (31 * h + x.ticket(year, p, unit)) + x.votes(year, unit, p);
                }
            }
        }
        h = 31 * h + x.split();
        for (int v = 0; v < 8; v++) h = 31 * (31 * h + x.money(v, 9)) + x.hedge(v);
        h = 31 * (31 * h + x.ruined(0)) + x.ruined(1);
        for (int i = 0; i < x.count(4); i++) h = 31 * h + x.worst(i);
        h = 31 * (31 * h + x.rest(0)) + x.rests();
        for (int p = 0; p < x.count(0); p++) h = 31 * (31 * h + x.wins(p, 0)) + x.wins(p, 1);
        for (int b = 1; b <= 5; b++) h = 31 * (31 * h + x.worth(0, b, 0)) + x.worth(0, b, 1);
        h = 31 * (31 * h + x.clash()) + x.drop();
        for (int i = -2; i <= 2; i++) h = 31 * h + x.round(i);
        return 31 * h + x.years();
    }
}

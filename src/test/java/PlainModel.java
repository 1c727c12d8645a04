import java.math.BigInteger;
import java.util.ArrayList;
import java.util.Arrays;
import java.util.List;

/**
 * The document once more, told as plainly as can be and without any memory of what was found
 * before: RandomRunsTest holds PoundVotes against it. SHEETS are true Java arrays here, so that
 * the FINDINGS are what the machine itself throws.
 */
final class PlainModel {
    static final int NONE = -1, BAD = -2, NOT = -3, FULL = -4;
    private static final String[][] ITEM_FORMS = {
        {"123456789", "123456789", "123456789"},
        {"abc", "+-", "123456789"},
        {"abcdef", "abcdef", "123456789"},
    };
    private static final int[] MOST_BYTES = {15, 31, 31}, MOST_ITEMS = {4, 8, 8};

    private final String[] texts = {"", "", ""};
    private final List<int[]> changes = new ArrayList<>(), contracts = new ArrayList<>(), bills = new ArrayList<>();
    private final int[] purses = {100, 100, 100, 100, 100, 100, 100, 100};
    private final int[][][] rates = new int[4][4][];
    private final Object[] sheets = new Object[4];
    private int law, day, finding;

    PlainModel() {
        for (int[][] row : rates) for (int i = 0; i < 4; i++) row[i] = new int[] {1, 1};
    }

    private static boolean in(int v, int low, int high) { return low <= v && v <= high; }

    // ---- texts

    int type(int text, int b) {
        if (!in(text, 0, 2) || !in(b, 0, 255)) return BAD;
        if (texts[text].length() == MOST_BYTES[text]) return FULL;
        texts[text] += (char) b;
        return texts[text].length();
    }

    int wipe(int text) {
        if (!in(text, 0, 2)) return BAD;
        int had = texts[text].length();
        texts[text] = "";
        return had;
    }

    int undo(int text) {
        if (!in(text, 0, 2)) return BAD;
        if (texts[text].isEmpty()) return NOT;
        texts[text] = texts[text].substring(0, texts[text].length() - 1);
        return texts[text].length();
    }

    int fault(int text) { return in(text, 0, 2) ? faultOf(text) : BAD; }

    private int faultOf(int text) {
        String t = texts[text];
        if (t.isEmpty()) return NONE;
        int at = 0;
        for (int item = 0; item < MOST_ITEMS[text]; item++) {
            for (int k = 0; k < 3; k++, at++) {
                if (at == t.length() || ITEM_FORMS[text][k].indexOf(t.charAt(at)) < 0) return at;
                if (text == 2 && k == 1 && t.charAt(at) == t.charAt(at - 1)) return at;
            }
            if (at == t.length()) return NONE;
            if (t.charAt(at) != ';') return at;
            at++;
        }
        return at;
    }

    private String[] items(int text) {
        return texts[text].isEmpty() || faultOf(text) != NONE ? new String[0] : texts[text].split(";");
    }

    private int parties() { return items(0).length; }

    private int voters() { return items(1).length; }

    int ticket(int year, int party, int unit) {
        if (!in(year, 0, 9) || !in(party, 0, parties() - 1) || !in(unit, 0, 2)) return BAD;
        int v = items(0)[party].charAt(unit) - '0', latest = -1;
        for (int[] c : changes) {
            if (c[0] <= year && c[0] >= latest && c[1] == party && c[2] == unit) {
                latest = c[0];
                v = c[3];
            }
        }
        return v;
    }

    int voter(int voter, int what) {
        if (!in(voter, 0, voters() - 1) || !in(what, 0, 2)) return BAD;
        String item = items(1)[voter];
        return what == 0 ? item.charAt(0) - 'a' : what == 1 ? (item.charAt(1) == '+' ? 1 : 0) : item.charAt(2) - '0';
    }

    int set(int what, int v) {
        if (!in(what, 0, 1) || !in(v, 0, what == 0 ? 2 : 1)) return BAD;
        int was = what == 0 ? law : day;
        if (what == 0) law = v; else day = v;
        return was;
    }

    int purse(int voter, int v) {
        if (!in(voter, 0, 7) || !in(v, 0, 999)) return BAD;
        int was = purses[voter];
        purses[voter] = v;
        return was;
    }

    int change(int year, int party, int unit, int v) {
        if (!in(year, 0, 9) || !in(party, 0, 3) || !in(unit, 0, 2) || !in(v, 1, 9)) return BAD;
        return add(changes, 10, year, party, unit, v);
    }

    private static int add(List<int[]> rows, int most, int... row) {
        if (rows.size() == most) return FULL;
        rows.add(row);
        return rows.size();
    }

    int back(int what) {
        if (!in(what, 0, 2)) return BAD;
        List<int[]> rows = List.of(changes, contracts, bills).get(what);
        if (rows.isEmpty()) return NOT;
        rows.remove(rows.size() - 1);
        return rows.size();
    }

    // ---- years

    /** Votes and, behind them, who is elected, in all YEARS; for one UNIT, or by all (unit -1). */
    private int[][] run(int byLaw, int unit) {
        int n = parties(), voters = voters();
        int[][] rows = new int[10][];
        int[] voterUnits = new int[voters];
        for (int v = 0; v < voters; v++) voterUnits[v] = voter(v, 0);
        Integer old = null;
        for (int year = 0; year < 10; year++) {
            int[][] gains = gains(year);
            int[] votes = new int[n + 1];
            for (int v = 0; v < voters; v++) {
                if (byLaw == 1 && voterUnits[v] != unit) continue;
                if (byLaw != 2) votes[best(Arrays.copyOf(gains[v], n), old)]++;
                else for (int p = 0; p < n; p++) if (approves(gains[v], p, n, old)) votes[p]++;
            }
            old = best(Arrays.copyOf(votes, n), old);
            votes[n] = old;
            rows[year] = votes;
        }
        return rows;
    }

    private int[][] gains(int year) {
        int n = parties();
        int[][] gains = new int[voters()][n];
        for (int v = 0; v < gains.length; v++) {
            for (int p = 0; p < n; p++) {
                gains[v][p] = (voter(v, 1) == 1 ? 1 : -1) * voter(v, 2) * ticket(year, p, voter(v, 0));
            }
        }
        return gains;
    }

    private static boolean approves(int[] gains, int p, int n, Integer old) {
        if (old != null) return gains[p] >= gains[old];
        double mean = 0;
        for (int q = 0; q < n; q++) mean += gains[q] / (double) n;
        return gains[p] >= mean - 1e-6;
    }

    private static int best(int[] row, Integer old) {
        int most = Arrays.stream(row).max().getAsInt();
        if (old != null && row[old] == most) return old;
        for (int i = 0; ; i++) if (row[i] == most) return i;
    }

    private int electedBy(int byLaw, int year, int unit) {
        int n = parties();
        return n == 0 ? NONE : run(byLaw, unit)[year][n];
    }

    private int greatBy(int byLaw, int year, int unit) {
        return parties() == 0 ? 1 : ticket(year, electedBy(byLaw, year, unit), unit);
    }

    int elected(int year, int unit) {
        return !in(year, 0, 9) || !in(unit, 0, 2) ? BAD : electedBy(law, year, unit);
    }

    int great(int year, int unit) {
        return !in(year, 0, 9) || !in(unit, 0, 2) ? BAD : greatBy(law, year, unit);
    }

    int votes(int year, int unit, int party) {
        if (!in(year, 0, 9) || !in(unit, 0, 2) || !in(party, 0, parties() - 1)) return BAD;
        return run(law, unit)[year][party];
    }

    int split() {
        int bits = 0;
        for (int year = 0; year < 10; year++) {
            boolean unlike = false;
            for (int unit = 0; unit < 3; unit++) unlike |= greatBy(0, year, unit) != greatBy(1, year, unit);
            if (unlike) bits += 1 << year;
        }
        return bits;
    }

    int contract(int from, int to, int much, int unit, int made, int due) {
        if (!in(from, 0, 7) || !in(to, 0, 7) || from == to || !in(much, 1, 99) || !in(unit, 0, 2)) return BAD;
        if (!in(made, 0, 9) || !in(due, 0, 9) || due <= made) return BAD;
        return add(contracts, 8, from, to, much, unit, made, due);
    }

    private int payment(int[] c) { return c[2] * greatBy(law, day == 0 ? c[4] : c[5], c[3]); }

    int money(int voter, int year) {
        if (!in(voter, 0, 7) || !in(year, 0, 9)) return -100002;
        int sum = purses[voter];
        for (int[] c : contracts) {
            if (c[5] <= year && c[0] == voter) sum -= payment(c);
            if (c[5] <= year && c[1] == voter) sum += payment(c);
        }
        return sum;
    }

    int ruined(int what) {
        if (!in(what, 0, 1)) return BAD;
        int[] held = purses.clone();
        for (int year = 0; year < 10; year++) {
            for (int[] c : contracts) {
                if (c[5] != year) continue;
                held[c[0]] -= payment(c);
                held[c[1]] += payment(c);
                for (int v = 0; v < 8; v++) if (held[v] < 0) return what == 0 ? v : year;
            }
        }
        return NONE;
    }

    int worst(int contract) {
        if (!in(contract, 0, contracts.size() - 1)) return BAD;
        int[] c = contracts.get(contract);
        return c[2] * Math.abs(greatBy(law, c[4], c[3]) - greatBy(law, c[5], c[3]));
    }

    // ---- votes

    int rest(int row) {
        if (!in(row, 0, 4095)) return BAD;
        if (parties() == 0) return NOT;
        return restOf(row, gains(0), parties());
    }

    private static int restOf(int row, int[][] gains, int n) {
        int[] choice = new int[gains.length];
        for (int v = 0; v < choice.length; v++) {
            choice[v] = v < 6 ? row / (int) Math.pow(4, v) % 4 : best(Arrays.copyOf(gains[v], n), null);
            if (choice[v] >= n) return BAD;
        }
        int now = outcome(choice, n);
        for (int v = 0; v < Math.min(6, choice.length); v++) {
            for (int p = 0; p < n; p++) {
                int[] other = choice.clone();
                other[v] = p;
                if (gains[v][outcome(other, n)] > gains[v][now]) return 0;
            }
        }
        return 1;
    }

    private static int outcome(int[] choice, int n) {
        int[] votes = new int[n];
        for (int p : choice) votes[p]++;
        return best(votes, null);
    }

    int rests() {
        int n = parties(), sum = 0;
        if (n == 0) return 0;
        int[][] gains = gains(0);
        int rows = 1 << 2 * Math.min(6, gains.length);
        for (int row = 0; row < rows; row++) if (restOf(row, gains, n) == 1) sum++;
        return sum;
    }

    int wins(int party, int what) {
        if (!in(party, 0, parties() - 1) || !in(what, 0, 1)) return BAD;
        int n = parties();
        int[][] gains = gains(0);
        int[] best = null;
        for (int t = 111; t <= 999; t++) {
            int[] figures = {t / 100, t / 10 % 10, t % 10};
            if (figures[1] == 0 || figures[2] == 0) continue;
            int unlike = 0;
            for (int unit = 0; unit < 3; unit++) unlike += Math.abs(figures[unit] - ticket(0, party, unit));
            if (best != null && best[1] <= unlike) continue;
            int[] choice = new int[gains.length];
            for (int v = 0; v < choice.length; v++) {
                int[] mine = Arrays.copyOf(gains[v], n);
                mine[party] = (voter(v, 1) == 1 ? 1 : -1) * voter(v, 2) * figures[voter(v, 0)];
                choice[v] = best(mine, null);
            }
            if (outcome(choice, n) == party) best = new int[] {t, unlike};
        }
        return best == null ? NONE : best[what];
    }

    int hedge(int voter) {
        if (!in(voter, 0, voters() - 1)) return BAD;
        int[] gains = gains(0)[voter];
        int[][] tickets = new int[gains.length][];
        for (int p = 0; p < gains.length; p++) {
            tickets[p] = new int[] {ticket(0, p, 0), ticket(0, p, 1), ticket(0, p, 2)};
        }
        for (int sum = 0; sum <= 27; sum++) {
            for (int t = 0; t <= 999; t++) {
                int[] h = {t / 100, t / 10 % 10, t % 10};
                if (h[0] + h[1] + h[2] != sum) continue;
                boolean alike = true;
                Integer first = null;
                for (int p = 0; p < gains.length; p++) {
                    int has = gains[p] + h[0] * tickets[p][0] + h[1] * tickets[p][1] + h[2] * tickets[p][2];
                    if (first == null) first = has;
                    alike &= first == has;
                }
                if (alike) return t;
            }
        }
        return NONE;
    }

    // ---- ratios, towns, bills

    /** Above and below of a in b by the RATIOS of the bits, walked edge by edge; null: none tells. */
    private BigInteger[] walk(int a, int b, int bits, int seen) {
        if (a == b) return new BigInteger[] {BigInteger.ONE, BigInteger.ONE};
        String[] ratios = items(2);
        for (int i = 0; i < ratios.length; i++) {
            if ((bits >> i & 1) == 0) continue;
            int x = ratios[i].charAt(0) - 'a', y = ratios[i].charAt(1) - 'a';
            BigInteger times = BigInteger.valueOf(ratios[i].charAt(2) - '0');
            int next = x == a ? y : y == a ? x : -1;
            if (next < 0 || (seen >> next & 1) == 1) continue;
            BigInteger[] rest = walk(next, b, bits, seen | 1 << next);
            if (rest == null) continue;
            BigInteger up = x == a ? rest[0].multiply(times) : rest[0];
            BigInteger down = x == a ? rest[1] : rest[1].multiply(times);
            BigInteger common = up.gcd(down);
            return new BigInteger[] {up.divide(common), down.divide(common)};
        }
        return null;
    }

    private boolean agrees(int ratio, int bits) {
        String item = items(2)[ratio];
        int a = item.charAt(0) - 'a', b = item.charAt(1) - 'a';
        BigInteger[] told = walk(a, b, bits, 1 << a);
        return told == null || told[1].equals(BigInteger.ONE) && told[0].intValue() == item.charAt(2) - '0';
    }

    /** Of the RATIOS of the bits those that do not CLASH, one by one. */
    private int agreeing(int bits) {
        int kept = 0;
        for (int i = 0; i < items(2).length; i++) {
            if ((bits >> i & 1) == 1 && agrees(i, kept)) kept |= 1 << i;
        }
        return kept;
    }

    long worth(int a, int b, int what) {
        if (!in(a, 0, 5) || !in(b, 0, 5) || a == b || !in(what, 0, 1)) return Long.MIN_VALUE + 2;
        BigInteger[] told = walk(a, b, agreeing(255), 1 << a);
        return told == null ? Long.MIN_VALUE + 3 : told[what].longValueExact();
    }

    int clash() {
        int kept = agreeing(255);
        for (int i = 0; i < items(2).length; i++) if ((kept >> i & 1) == 0) return i;
        return NONE;
    }

    int drop() {
        int all = (1 << items(2).length) - 1;
        for (int n = 0; ; n++) {
            for (int bits = 0; bits <= all; bits++) {
                if (Integer.bitCount(bits) == n && agreeing(all & ~bits) == (all & ~bits)) return bits;
            }
        }
    }

    int rate(int from, int to, int above, int below) {
        if (!in(from, 0, 3) || !in(to, 0, 3) || from == to || !in(above, 1, 9) || !in(below, 1, 9)) return BAD;
        int[] was = rates[from][to];
        rates[from][to] = new int[] {above, below};
        return 10 * was[0] + was[1];
    }

    int round(int i) {
        if (!in(i, -2, 3)) return BAD;
        String best = "";
        BigInteger up = BigInteger.ONE, down = BigInteger.ONE;
        for (int n = 2; n <= 4; n++) {
            for (int code = 0; code < Math.pow(4, n); code++) {
                String way = "";
                for (int k = n - 1; k >= 0; k--) way += code / (int) Math.pow(4, k) % 4;
                if (way.chars().distinct().count() != n || way.chars().min().getAsInt() != way.charAt(0)) continue;
                BigInteger u = BigInteger.ONE, d = BigInteger.ONE;
                for (int k = 0; k < n; k++) {
                    int[] rate = rates[way.charAt(k) - '0'][way.charAt((k + 1) % n) - '0'];
                    u = u.multiply(BigInteger.valueOf(rate[0]));
                    d = d.multiply(BigInteger.valueOf(rate[1]));
                }
                if (u.multiply(down).compareTo(up.multiply(d)) <= 0) continue;
                best = way;
                up = u;
                down = d;
            }
        }
        BigInteger common = up.gcd(down);
        if (i == -2) return up.divide(common).intValueExact();
        if (i == -1) return down.divide(common).intValueExact();
        return i < best.length() ? best.charAt(i) - '0' : NONE;
    }

    int bill(int much, int unit, int paid) {
        if (!in(much, 1, 9) || !in(unit, 0, 2) || !in(paid, 1, 99)) return BAD;
        return add(bills, 6, much, unit, paid);
    }

    int years() {
        int bits = 0;
        for (int year = 0; year < 10; year++) {
            boolean all = true;
            for (int[] b : bills) all &= b[0] * greatBy(law, year, b[1]) == b[2];
            if (all) bits |= 1 << year;
        }
        return bits;
    }

    // ---- sheets

    private int found(RuntimeException e) {
        finding = e instanceof NullPointerException ? 1 : e instanceof IndexOutOfBoundsException ? 2
                : e instanceof ClassCastException ? 3 : e instanceof ArrayStoreException ? 4
                : e instanceof NegativeArraySizeException ? 5 : 99;
        return -10 - finding;
    }

    private static int length(Object sheet) { return java.lang.reflect.Array.getLength(sheet); }

    private static void put(Object sheet, int form, int i, int v) {
        if (form == 0) ((byte[]) sheet)[i] = (byte) v;
        else if (form == 1) ((short[]) sheet)[i] = (short) v;
        else ((int[]) sheet)[i] = v;
    }

    private static int at(Object sheet, int form, int i) {
        return form == 0 ? ((byte[]) sheet)[i] : form == 1 ? ((short[]) sheet)[i] : ((int[]) sheet)[i];
    }

    private static int formOf(Object sheet) {
        return sheet instanceof byte[] ? 0 : sheet instanceof short[] ? 1 : 2;
    }

    int sheet(int s, int form, int n) {
        if (!in(s, 0, 3) || !in(form, 0, 2) || n > 60) return BAD;
        try {
            sheets[s] = form == 0 ? new byte[n] : form == 1 ? new short[n] : new int[n];
            return n;
        } catch (RuntimeException e) {
            return found(e);
        }
    }

    int lose(int s) {
        if (!in(s, 0, 3)) return BAD;
        try {
            int had = length(sheets[s]);
            sheets[s] = null;
            return had;
        } catch (RuntimeException e) {
            return found(e);
        }
    }

    /** A cast of null is fine to the machine, and then the null is found: so NULL is ahead of CAST. */
    int lay(int s, int form, int i, int v) {
        if (!in(s, 0, 3) || !in(form, 0, 2)) return BAD;
        try {
            put(sheets[s], form, i, v);
            return 1;
        } catch (RuntimeException e) {
            return found(e);
        }
    }

    int get(int s, int form, int i) {
        if (!in(s, 0, 3) || !in(form, 0, 2)) return Integer.MIN_VALUE;
        try {
            return at(sheets[s], form, i);
        } catch (RuntimeException e) {
            found(e);
            return Integer.MIN_VALUE;
        }
    }

    int copy(int s, int i, int t, int j, int n) {
        if (!in(s, 0, 3) || !in(t, 0, 3)) return BAD;
        try {
            System.arraycopy(sheets[s], i, sheets[t], j, n);
            return 1;
        } catch (RuntimeException e) {
            return found(e);
        }
    }

    int read(int s) {
        if (!in(s, 0, 3)) return BAD;
        try {
            int done = 0;
            while (done < length(sheets[s]) && done < 8) {
                int v = at(sheets[s], formOf(sheets[s]), done);
                if (!in(v, 0, 999)) break;
                purses[done++] = v;
            }
            return done;
        } catch (RuntimeException e) {
            return found(e);
        }
    }

    int write(int year, int s) {
        if (!in(year, 0, 9) || !in(s, 0, 3)) return BAD;
        try {
            int done = 0;
            for (; done < length(sheets[s]) && done < 8; done++) {
                put(sheets[s], formOf(sheets[s]), done, money(done, year));
            }
            return done;
        } catch (RuntimeException e) {
            return found(e);
        }
    }

    int count(int what) {
        int[] all = {parties(), voters(), items(2).length, changes.size(), contracts.size(), bills.size(), law, day, finding};
        return in(what, 0, 8) ? all[what] : BAD;
    }

    long digest() {
        List<Long> row = new ArrayList<>();
        for (int i = 0; i <= 7; i++) row.add((long) count(i));
        for (int i = 0; i <= 2; i++) row.add((long) fault(i));
        for (int year : new int[] {0, 1, 9}) {
            for (int unit = 0; unit < 3; unit++) {
                row.add((long) elected(year, unit));
                row.add((long) great(year, unit));
                for (int p = 0; p < parties(); p++) {
                    row.add((long) ticket(year, p, unit));
                    row.add((long) votes(year, unit, p));
                }
            }
        }
        row.add((long) split());
        for (int v = 0; v <= 7; v++) {
            row.add((long) money(v, 9));
            row.add((long) hedge(v));
        }
        row.add((long) ruined(0));
        row.add((long) ruined(1));
        for (int i = 0; i < contracts.size(); i++) row.add((long) worst(i));
        row.add((long) rest(0));
        row.add((long) rests());
        for (int p = 0; p < parties(); p++) {
            row.add((long) wins(p, 0));
            row.add((long) wins(p, 1));
        }
        for (int b = 1; b <= 5; b++) {
            row.add(worth(0, b, 0));
            row.add(worth(0, b, 1));
        }
        row.add((long) clash());
        row.add((long) drop());
        for (int i = -2; i <= 2; i++) row.add((long) round(i));
        row.add((long) years());
        long h = 17;
        for (long v : row) h = 31 * h + v;
        return h;
    }
}

import java.lang.reflect.Method;
import java.util.ArrayList;
import java.util.Arrays;
import java.util.List;

/**
 * Refused calls: what they answer, which refusal is the first that fits, and that they change nothing.
 * Two objects are made alike; one of them is asked what is refused; then both answer a long row of calls alike.
 */
public final class RefusalTest extends Checks {
    private static final String ANSWERS_WITHOUT_REFUSAL = "split rests clash drop years digest";

    /** A call that is well on a busy object, with the least and the most that each of its numbers may be. */
    private static final String[] WELL = {
        "type 0:0:2 57:0:255", "wipe 0:0:2", "undo 0:0:2", "fault 0:0:2",
        "ticket 0:0:9 0:0:2 0:0:2", "voter 0:0:3 0:0:2", "set 0:0:1 1:0:2", "purse 0:0:7 5:0:999",
        "change 0:0:9 0:0:3 0:0:2 5:1:9", "back 0:0:2", "elected 0:0:9 0:0:2", "great 0:0:9 0:0:2",
        "votes 0:0:9 0:0:2 0:0:2", "contract 0:0:7 1:0:7 5:1:99 0:0:2 0:0:9 9:0:9", "money 0:0:7 0:0:9",
        "ruined 0:0:1", "worst 0:0:1", "rest 0:0:4095", "wins 0:0:2 0:0:1", "hedge 0:0:3",
        "worth 0:0:5 1:0:5 0:0:1", "rate 0:0:3 1:0:3 5:1:9 5:1:9", "round 0:-2:3", "bill 1:1:9 0:0:2 5:1:99",
        "sheet 0:0:3 0:0:2 5:L:60", "lose 0:0:3", "lay 0:0:3 0:0:2 0:L:M 5:L:M", "get 0:0:3 0:0:2 0:L:M",
        "copy 0:0:3 0:L:M 0:0:3 0:L:M 1:L:M", "read 0:0:3", "write 0:0:9 0:0:3", "count 0:0:8",
    };

    /** Calls that are refused on a busy object though each number is within its bounds, or by several refusals at once. */
    private static final String[] REFUSED_BUSY = {
        "voter 4 0 = -2", "voter 0 3 = -2", "set 0 3 = -2", "set 1 2 = -2", "contract 3 3 5 0 0 1 = -2",
        "contract 0 1 5 0 4 4 = -2", "contract 0 1 5 0 4 3 = -2", "contract 7 0 5 0 9 9 = -2",
        "rest 3 = -2", "rest 12 = -2", "rest 48 = -2", "rest 192 = -2", "rest 4095 = -2", "rest 4096 = -2",
        "worth 0 0 0 = BAD", "worth 5 5 1 = BAD", "worth 5 5 2 = BAD", "worth 0 5 0 = NOT", "worth 4 5 1 = NOT",
        "worth 0 5 2 = BAD", "worth 6 5 0 = BAD", "rate 1 1 5 5 = -2",
        "sheet 0 0 -1 = -15", "sheet 3 2 -2147483648 = -15", "sheet 4 0 -1 = -2", "sheet 0 3 -1 = -2", "sheet 0 0 61 = -2",
        "lose 3 = -11", "lay 3 0 0 5 = -11", "lay 3 0 99 5 = -11", "lay 3 3 99 5 = -2", "lay 0 2 0 5 = -13",
        "lay 0 1 99 5 = -13", "lay 0 0 5 5 = -12", "lay 0 0 -1 5 = -12", "lay 2 2 60 5 = -12",
        "get 3 0 0 = LEAST 1", "get 3 0 99 = LEAST 1", "get 0 2 0 = LEAST 3", "get 0 2 99 = LEAST 3",
        "get 0 0 5 = LEAST 2", "get 0 0 -1 = LEAST 2", "get 3 3 99 = LEAST 0", "get 4 0 0 = LEAST 0",
        "copy 3 0 0 0 0 = -11", "copy 0 0 3 0 0 = -11", "copy 3 -1 3 -1 -1 = -11", "copy 4 0 3 0 0 = -2",
        "copy 0 0 1 0 0 = -14", "copy 0 -1 1 9 9 = -14", "copy 0 0 0 1 5 = -12", "copy 0 1 0 0 5 = -12",
        "copy 0 -1 0 0 1 = -12", "copy 0 0 0 -1 1 = -12", "copy 0 0 0 0 -1 = -12", "copy 0 6 0 0 0 = -12",
        "read 3 = -11", "write 0 3 = -11", "write 10 3 = -2", "write 0 4 = -2",
        "money 8 10 = -100002", "money -1 -1 = -100002",
    };

    /** Refused on an object that is full of all. */
    private static final String[] REFUSED_FULL = {
        "type 0 59 = -4", "type 1 59 = -4", "type 2 59 = -4", "type 0 256 = -2", "type 0 -1 = -2", "type 3 59 = -2",
        "change 0 0 0 1 = -4", "change 10 0 0 1 = -2", "change 0 4 0 1 = -2", "change 0 0 3 1 = -2", "change 0 0 0 10 = -2",
        "contract 0 1 1 0 0 1 = -4", "contract 0 0 1 0 0 1 = -2", "contract 0 1 0 0 0 1 = -2", "contract 0 1 1 3 0 1 = -2",
        "contract 0 1 1 0 1 1 = -2", "contract 8 1 1 0 0 1 = -2", "bill 1 0 1 = -4", "bill 0 0 1 = -2", "bill 1 3 1 = -2",
        "bill 1 0 100 = -2", "ticket 0 4 0 = -2", "voter 8 0 = -2", "worst 8 = -2", "hedge 8 = -2", "wins 4 0 = -2",
    };

    /** Refused on a new object. */
    private static final String[] REFUSED_NEW = {
        "undo 0 = -3", "undo 1 = -3", "undo 2 = -3", "undo 3 = -2", "back 0 = -3", "back 1 = -3", "back 2 = -3", "back 3 = -2",
        "rest 0 = -3", "rest 4095 = -3", "rest 4096 = -2", "rest -1 = -2", "ticket 0 0 0 = -2", "votes 0 0 0 = -2",
        "voter 0 0 = -2", "worst 0 = -2", "wins 0 0 = -2", "hedge 0 = -2", "worth 0 1 0 = NOT", "worth 0 1 2 = BAD",
        "lose 0 = -11", "lay 0 0 0 0 = -11", "get 0 0 0 = LEAST 1", "copy 0 0 1 0 0 = -11", "read 0 = -11", "write 0 0 = -11",
        "write 10 0 = -2", "sheet 0 0 -1 = -15",
    };

    private static PoundVotes fresh() {
        return new PoundVotes();
    }

    private static PoundVotes busy() {
        PoundVotes x = with("912;345;581", "a+5;a-3;b+2;c-9", "ab2;bc3;cd4");
        x.change(3, 1, 0, 9);
        x.change(5, 0, 2, 7);
        x.contract(0, 1, 20, 0, 0, 4);
        x.contract(2, 0, 5, 1, 1, 2);
        x.bill(2, 0, 18);
        x.rate(0, 1, 9, 2);
        x.rate(3, 0, 2, 1);
        x.purse(4, 321);
        x.set(0, 1);
        x.set(1, 1);
        int[] items = {5, 3, 60};
        for (int form = 0; form < 3; form++) {
            x.sheet(form, form, items[form]);
            for (int i = 0; i < items[form]; i += 2) x.lay(form, form, i, 11 * i - 7);
        }
        return x;
    }

    private static PoundVotes full() {
        PoundVotes x = with("912;345;581;155", "a+5;a-3;b+2;c-9;b-1;a+1;c+2;b+9", "ab2;bc3;cd4;de5;ef6;fa7;ab8;bc9");
        for (int n = 0; n < 10; n++) x.change(n, n % 4, n % 3, n % 9 + 1);
        for (int n = 0; n < 8; n++) x.contract(n, 7 - n, 9 * n + 1, n % 3, n, n + 1);
        for (int n = 0; n < 6; n++) x.bill(n + 1, n % 3, 9 * n + 9);
        return x;
    }

    private static PoundVotes made(String kind) {
        return kind.equals("new") ? fresh() : kind.equals("busy") ? busy() : full();
    }

    private static long ask(PoundVotes x, String name, int... numbers) throws ReflectiveOperationException {
        Class<?>[] types = new Class<?>[numbers.length];
        Arrays.fill(types, int.class);
        Method m = PoundVotes.class.getMethod(name, types);
        return ((Number) m.invoke(x, Arrays.stream(numbers).boxed().toArray())).longValue();
    }

    /** All that can be seen of an object, in the end by undoing it: some 300 calls. */
    private static List<Long> probe(PoundVotes x) {
        List<Long> row = new ArrayList<>();
        row.add(x.digest());
        for (int i = 0; i < 8; i++) row.add((long) x.count(i));
        for (int v = 0; v < 8; v++) row.add((long) x.money(v, 0));
        for (int v = 0; v < 8; v++) row.add((long) x.money(v, 9));
        for (int form = 0; form < 3; form++) {
            for (int i = 0; i < (form < 2 ? 5 : 60); i += form < 2 ? 1 : 4) row.add((long) x.get(form, form, i));
        }
        for (int s = 0; s < 4; s++) row.add((long) x.lose(s));
        for (int a = 0; a < 4; a++) for (int b = 0; b < 4; b++) row.add((long) x.rate(a, b, 1, 1));
        for (int what = 0; what < 3; what++) {
            for (int n = 0; n < 3; n++) row.add((long) x.back(what));
            row.add(x.digest());
        }
        for (int text = 0; text < 3; text++) {
            for (int n = 0; n < 9; n++) row.add((long) x.undo(text));
            row.add(x.digest());
            row.add((long) x.wipe(text));
        }
        return row;
    }

    /** The number of the FINDING that an answer tells; for get it is told behind the answer. */
    private static int findingOf(long answer, int told) {
        return answer <= -11 && answer >= -15 ? (int) (-10 - answer) : told;
    }

    private static void refused(String kind, String name, int[] numbers, long want, int toldFinding)
            throws ReflectiveOperationException {
        String what = name + Arrays.toString(numbers) + " on a " + kind + " object";
        PoundVotes x = made(kind);
        due(what, ask(x, name, numbers), want);
        due(what + ": count 8", x.count(8), findingOf(want, toldFinding));
        PoundVotes twin = made(kind);
        twin.count(8);
        List<Long> got = probe(x), as = probe(twin);
        for (int i = 0; i < got.size(); i++) due(what + " changed something: place " + i, got.get(i), as.get(i));
    }

    private static long answer(String told) {
        switch (told) {
            case "BAD": return LONG_BAD;
            case "NOT": return LONG_NOT;
            case "LEAST": return LEAST;
            default: return Long.parseLong(told);
        }
    }

    private static void table(String kind, String[] rows) throws ReflectiveOperationException {
        for (String row : rows) {
            String[] sides = row.split(" = ");
            String[] call = sides[0].split(" "), told = sides[1].split(" ");
            int[] numbers = new int[call.length - 1];
            for (int i = 0; i < numbers.length; i++) numbers[i] = Integer.parseInt(call[i + 1]);
            refused(kind, call[0], numbers, answer(told[0]), told.length > 1 ? Integer.parseInt(told[1]) : 0);
        }
    }

    private static long badOf(String name) {
        return name.equals("money") ? -100002 : name.equals("worth") ? LONG_BAD : name.equals("get") ? LEAST : BAD;
    }

    private static int bound(String told) {
        return told.equals("L") ? LEAST : told.equals("M") ? MOST : Integer.parseInt(told);
    }

    /** Each number of each call, just below and above what it may be, and as far away as can be. */
    private static void outOfBounds(String call) throws ReflectiveOperationException {
        String[] parts = call.split(" ");
        int n = parts.length - 1;
        int[][] told = new int[n][];
        for (int i = 0; i < n; i++) told[i] = Arrays.stream(parts[i + 1].split(":")).mapToInt(RefusalTest::bound).toArray();
        for (int i = 0; i < n; i++) {
            int[] numbers = new int[n];
            for (int k = 0; k < n; k++) numbers[k] = told[k][0];
            List<Integer> wrong = new ArrayList<>();
            if (told[i][1] != LEAST) wrong.addAll(List.of(told[i][1] - 1, LEAST));
            if (told[i][2] != MOST) wrong.addAll(List.of(told[i][2] + 1, MOST));
            for (int v : wrong) {
                numbers[i] = v;
                refused("busy", parts[0], numbers, badOf(parts[0]), 0);
            }
        }
    }

    /** No call is forgotten: what takes numbers stands above; what takes none is never refused. */
    private static void allCalls() {
        List<String> told = new ArrayList<>(List.of(ANSWERS_WITHOUT_REFUSAL.split(" ")));
        for (String call : WELL) told.add(call.split(" ")[0]);
        for (Method m : PoundVotes.class.getDeclaredMethods()) {
            if ((m.getModifiers() & 1) != 0) due(m.getName() + " is told here", told.contains(m.getName()) ? 1 : 0, 1);
        }
    }

    private static void wellInBounds() throws ReflectiveOperationException {
        for (String call : WELL) {
            String[] parts = call.split(" ");
            int[] numbers = new int[parts.length - 1];
            for (int i = 0; i < numbers.length; i++) numbers[i] = bound(parts[i + 1].split(":")[0]);
            long answer = ask(busy(), parts[0], numbers);
            due(call + " is not refused", answer <= -2 && !parts[0].equals("get") ? 1 : 0, 0);
        }
    }

    public static void main(String[] args) throws ReflectiveOperationException {
        allCalls();
        wellInBounds();
        says("BAD -2 (a number not as told, no such thing), NULL, NOT -3 (as told), FULL -4, other FINDINGS.");
        for (String call : WELL) outOfBounds(call);
        says("Refusals, the first that fits, in the order told at each act:");
        table("new", REFUSED_NEW);
        table("full", REFUSED_FULL);
        says("They change nothing (FINDINGS but count() 8).");
        table("busy", REFUSED_BUSY);
        says("Where any number is told, a refusal is -100000 less x;");
        due("money", busy().money(8, 0), -100000 - 2);
        says("where the answer is a long, the least long and x more.");
        due("worth, bad", busy().worth(0, 0, 0), Long.MIN_VALUE + 2);
        due("worth, not", busy().worth(0, 5, 0), Long.MIN_VALUE + 3);
        end("all refusals are as told");
    }
}

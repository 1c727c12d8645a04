import java.lang.reflect.Method;
import java.util.ArrayList;
import java.util.Arrays;
import java.util.List;
import java.util.Random;

/**
 * Runs of calls drawn by fixed seeds, each answered by PoundVotes and by PlainModel alike.
 * A number as argument tells how many runs.
 */
public final class RandomRunsTest {
    private static final int RUNS = 100, CALLS = 512;
    private static final String[] LOOKS = {
        "fault", "ticket", "voter", "elected", "great", "votes", "split", "money", "ruined", "worst", "rest",
        "rests", "wins", "hedge", "worth", "clash", "drop", "round", "years", "get", "count", "digest",
    };
    private static final String[] ACTS = {
        "type", "wipe", "undo", "set", "purse", "change", "back", "contract", "rate", "bill", "sheet", "lose",
        "lay", "copy", "read", "write",
    };
    /** For each call the least and the most that each of its numbers may be. */
    private static int[][] ranges(String name) {
        int[] text = {0, 2}, year = {0, 9}, party = {0, 3}, unit = {0, 2}, person = {0, 7}, one = {0, 1}, figure = {1, 9};
        int[] sheet = {0, 3}, form = {0, 2}, item = {0, 12};
        switch (name) {
            case "type": return new int[][] {text, {0, 255}};
            case "wipe": case "undo": case "fault": return new int[][] {text};
            case "ticket": return new int[][] {year, party, unit};
            case "voter": return new int[][] {person, {0, 2}};
            case "set": return new int[][] {one, {0, 2}};
            case "purse": return new int[][] {person, {0, 999}};
            case "change": return new int[][] {year, party, unit, figure};
            case "back": return new int[][] {{0, 2}};
            case "elected": case "great": return new int[][] {year, unit};
            case "votes": return new int[][] {year, unit, party};
            case "contract": return new int[][] {person, person, {1, 99}, unit, {0, 8}, {1, 9}};
            case "money": return new int[][] {person, year};
            case "ruined": return new int[][] {one};
            case "worst": return new int[][] {{0, 7}};
            case "rest": return new int[][] {{0, 4095}};
            case "wins": return new int[][] {party, one};
            case "hedge": return new int[][] {person};
            case "worth": return new int[][] {{0, 5}, {0, 5}, one};
            case "rate": return new int[][] {{0, 3}, {0, 3}, figure, figure};
            case "round": return new int[][] {{-2, 3}};
            case "bill": return new int[][] {figure, unit, {1, 99}};
            case "sheet": return new int[][] {sheet, form, {0, 60}};
            case "lose": case "read": return new int[][] {sheet};
            case "lay": return new int[][] {sheet, form, item, {-1200, 1200}};
            case "get": return new int[][] {sheet, form, item};
            case "copy": return new int[][] {sheet, item, sheet, item, item};
            case "write": return new int[][] {year, sheet};
            case "count": return new int[][] {{0, 8}};
            default: return new int[0][];
        }
    }

    private final Random random;
    private final PoundVotes real = new PoundVotes();
    private final PlainModel plain = new PlainModel();
    private final List<String> told = new ArrayList<>();
    private boolean wrong;

    private RandomRunsTest(long seed) {
        random = new Random(seed);
    }

    private int number(int[] range) {
        int luck = random.nextInt(60);
        if (luck == 0) return range[0] - 1;
        if (luck == 1) return range[1] + 1;
        if (luck == 2) return random.nextInt();
        if (luck == 3) return random.nextBoolean() ? Integer.MIN_VALUE : Integer.MAX_VALUE;
        if (luck < 8) return range[random.nextInt(2)];
        return range[0] + random.nextInt(range[1] - range[0] + 1);
    }

    private void call(String name, int... numbers) throws ReflectiveOperationException {
        if (wrong || told.size() >= CALLS) return;
        Class<?>[] types = new Class<?>[numbers.length];
        Arrays.fill(types, int.class);
        Object[] arguments = Arrays.stream(numbers).boxed().toArray();
        Method ours = PoundVotes.class.getMethod(name, types);
        Method theirs = PlainModel.class.getDeclaredMethod(name, types);
        long got = ((Number) ours.invoke(real, arguments)).longValue();
        long want = ((Number) theirs.invoke(plain, arguments)).longValue();
        told.add(name + Arrays.toString(numbers) + " = " + got);
        wrong = got != want;
        if (wrong) told.add("due is " + want);
    }

    private void drawn(String name) throws ReflectiveOperationException {
        int[][] ranges = ranges(name);
        int[] numbers = new int[ranges.length];
        for (int i = 0; i < numbers.length; i++) numbers[i] = number(ranges[i]);
        if (name.equals("lay") && random.nextInt(4) == 0) numbers[3] = random.nextInt();
        call(name, numbers);
    }

    /** Texts of bytes drawn one by one are hardly ever well: so whole ones are typed, too. */
    private void typeWhole(int text) throws ReflectiveOperationException {
        call("wipe", text);
        String[][] forms = {{"123456789", "123456789", "123456789"}, {"abc", "+-", "123456789"}, {"abcdef", "abcdef", "123456789"}};
        int figures = 1 + random.nextInt(9);
        int items = random.nextInt(text == 0 ? 5 : 9);
        int last = 0;
        for (int i = 0; i < items; i++) {
            for (int k = 0; k < 3; k++) {
                String signs = forms[text][k];
                int most = signs.charAt(0) == '1' ? figures : signs.length();
                char sign = signs.charAt(random.nextInt(most));
                if (text == 2 && k == 1 && sign == last) sign = last == 'a' ? 'b' : 'a';
                if (random.nextInt(400) == 0) sign = (char) random.nextInt(256);
                last = sign;
                call("type", text, sign);
            }
            if (i + 1 < items) call("type", text, ';');
        }
    }

    private boolean run() throws ReflectiveOperationException {
        for (int text = 0; text < 3; text++) if (random.nextInt(8) != 0) typeWhole(text);
        while (told.size() < CALLS - 1 && !wrong) {
            int luck = random.nextInt(100);
            if (luck == 0) typeWhole(random.nextInt(3));
            else if (luck < 40) drawn(ACTS[3 + random.nextInt(ACTS.length - 3)]);
            else if (luck < 42) drawn(ACTS[random.nextInt(3)]);
            else if (luck < 43) drawn("digest");
            else drawn(LOOKS[random.nextInt(LOOKS.length - 1)]);
        }
        call("digest");
        return wrong;
    }

    public static void main(String[] args) throws ReflectiveOperationException {
        int failed = 0;
        int runs = args.length == 1 ? Integer.parseInt(args[0]) : RUNS;
        for (int seed = 0; seed < runs && failed < 3; seed++) {
            RandomRunsTest test = new RandomRunsTest(seed);
            if (!test.run()) continue;
            failed++;
            System.out.println("seed " + seed + ":");
            for (String line : test.told) System.out.println("  " + line);
        }
        System.out.println(failed == 0 ? "all runs are alike" : "runs are not alike");
        if (failed != 0) System.exit(1);
    }
}

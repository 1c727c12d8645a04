import java.io.IOException;
import java.nio.file.Files;
import java.nio.file.Path;
import java.util.ArrayList;
import java.util.Collections;
import java.util.List;
import java.util.regex.Matcher;
import java.util.regex.Pattern;
import java.util.stream.Stream;

/**
 * Holds the tests to the document: what a test says by says() stands in it word by word, in one place, and no
 * sentence from its UNITS to its last promise is without a test that says it. The face is FaceTest's.
 */
public final class QuotesTest extends Checks {
    private static final Path DOCUMENT = Path.of("../shared/DOC.md"), TESTS = Path.of("src/test/java");
    private static final String PART = "\"((?:[^\"\\\\]|\\\\.)*)\"";
    private static final Pattern SAYS = Pattern.compile("says\\((" + PART + "(?:\\s*\\+\\s*" + PART + ")*)\\)");

    private static String plain(String text) {
        return text.replaceAll("```(text|java)?", " ").replaceAll("={8} \\d", " ").replaceAll("\\s+", " ");
    }

    private static List<String> quotes() throws IOException {
        List<String> all = new ArrayList<>();
        List<Path> files;
        try (Stream<Path> stream = Files.list(TESTS)) {
            files = new ArrayList<>(stream.toList());
        }
        Collections.sort(files);
        for (Path file : files) {
            Matcher m = SAYS.matcher(Files.readString(file));
            while (m.find()) all.add(joined(m.group(1)));
        }
        return all;
    }

    private static String joined(String parts) {
        StringBuilder words = new StringBuilder();
        Matcher m = Pattern.compile(PART).matcher(parts);
        while (m.find()) words.append(m.group(1));
        return words.toString();
    }

    /** Marks the places of the document's text that a quote covers. */
    private static void mark(String text, String quote, boolean[] said) {
        int at = text.indexOf(quote);
        due("places of: " + quote, at < 0 ? 0 : text.indexOf(quote, at + 1) < 0 ? 1 : 2, 1);
        for (int i = 0; at >= 0 && i < quote.length(); i++) said[at + i] = true;
    }

    /** What is no promise: headings, the faces of calls, and where the interface has its lines. */
    private static void markFrame(String text, boolean[] said) {
        Matcher m = Pattern.compile("## The public face.*?## Terms|## Promise \\d+: [a-zA-Z ]+(?= `)|`[^`]*\\)`:|Ahead of the calls.*?: ---- [a-z, ]+\\.").matcher(text);
        while (m.find()) for (int i = m.start(); i < m.end(); i++) said[i] = true;
    }

    private static void unsaid(String text, boolean[] said) {
        int from = text.indexOf("UNITS are 0 to 2."), to = text.indexOf("## Not promised");
        StringBuilder gap = new StringBuilder();
        for (int i = from; i <= to; i++) {
            if (i < to && !said[i]) {
                gap.append(text.charAt(i));
            } else {
                String words = gap.toString();
                gap.setLength(0);
                if (Pattern.compile("\\w").matcher(words).find()) due("tests that say: " + words, 0, 1);
            }
        }
    }

    public static void main(String[] args) throws IOException {
        if (!Files.isReadable(DOCUMENT)) {
            System.out.println("the document is not here: nothing to hold quotes to");
            return;
        }
        String text = plain(Files.readString(DOCUMENT));
        boolean[] said = new boolean[text.length()];
        List<String> quotes = quotes();
        for (String quote : quotes) mark(text, quote, said);
        markFrame(text, said);
        unsaid(text, said);
        end("all of the document is said by tests, " + quotes.size() + " times");
    }
}

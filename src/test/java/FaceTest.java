import java.io.IOException;
import java.lang.reflect.Constructor;
import java.lang.reflect.Field;
import java.lang.reflect.Method;
import java.lang.reflect.Modifier;
import java.nio.file.Files;
import java.nio.file.Path;
import java.util.Arrays;
import java.util.HashSet;
import java.util.Set;
import java.util.TreeSet;
import java.util.regex.Matcher;
import java.util.regex.Pattern;

/** The face of the class, and those rules of LANGUAGE.md that can be seen from outside. */
public final class FaceTest {
    /** Each method of the document with how many ints it takes; worth and digest answer longs. */
    private static final String FACE = "type2 wipe1 undo1 fault1 ticket3 voter2 set2 purse2 change4 back1 elected2 "
            + "great2 votes3 split0 contract6 money2 ruined1 worst1 rest1 rests0 wins2 hedge1 worth3 clash0 drop0 "
            + "rate4 round1 bill3 years0 sheet3 lose1 lay4 get3 copy5 read1 write2 count1 digest0";
    private static final String[] FORBIDDEN = {
        "\\bthrow\\b", "\\btry\\b", "\\bcatch\\b", "\\bsynchronized\\b", "\\bassert\\b", "->", "::", "Exact\\b",
        "\\bprotected\\b", "\\bpackage\\b", "MIN_VALUE", "MAX_VALUE", "\\bstatic\\s*\\{",
    };
    private static int wrong = 0;

    private static void hold(boolean fine, String what) {
        if (fine) return;
        wrong++;
        System.out.println("not so: " + what);
    }

    private static void face() {
        Set<String> seen = new TreeSet<>(), names = new HashSet<>();
        for (Method m : PoundVotes.class.getDeclaredMethods()) {
            if (Modifier.isPrivate(m.getModifiers())) continue;
            seen.add(m.getName() + m.getParameterCount());
            names.add(m.getName());
            boolean isLong = m.getName().equals("worth") || m.getName().equals("digest");
            hold(m.getModifiers() == Modifier.PUBLIC, m + " is public, and no more");
            hold(m.getReturnType() == (isLong ? long.class : int.class), m + " answers as told");
            hold(Arrays.stream(m.getParameterTypes()).allMatch(t -> t == int.class), m + " takes ints");
        }
        hold(seen.equals(new TreeSet<>(Arrays.asList(FACE.split(" ")))), "the methods are those of the document: " + seen);
        for (Method m : PoundVotes.class.getDeclaredMethods()) {
            if (Modifier.isPrivate(m.getModifiers())) hold(!names.contains(m.getName()), m + " bears a name of its own");
        }
        Constructor<?>[] constructors = PoundVotes.class.getDeclaredConstructors();
        hold(constructors.length == 1 && constructors[0].getParameterCount() == 0, "there is one constructor");
        hold(constructors[0].getModifiers() == Modifier.PUBLIC, "the constructor is public");
        hold(PoundVotes.class.getModifiers() == (Modifier.PUBLIC | Modifier.FINAL), "the class is public and final");
    }

    private static void fields(Class<?> of) {
        int own = 0;
        for (Field f : of.getDeclaredFields()) {
            boolean isStatic = Modifier.isStatic(f.getModifiers());
            hold(!isStatic || Modifier.isFinal(f.getModifiers()), f + " is final");
            if (!isStatic) own++;
            boolean told = Set.of("NONE", "BAD", "NOT", "FULL").contains(f.getName());
            if (of == PoundVotes.class) hold(Modifier.isPublic(f.getModifiers()) == told, f + " is public as told");
            if (of == PoundVotes.class && !told) hold(Modifier.isPrivate(f.getModifiers()), f + " is private");
        }
        hold(own <= 20, of + " has some twenty fields");
    }

    private static void constants() {
        int[] all = {PoundVotes.NONE, PoundVotes.BAD, PoundVotes.NOT, PoundVotes.FULL};
        hold(Arrays.equals(all, new int[] {-1, -2, -3, -4}), "constants are as told");
    }

    private static void classes() {
        Class<?>[] inside = PoundVotes.class.getDeclaredClasses();
        hold(inside.length <= 11, "there are some twelve classes");
        fields(PoundVotes.class);
        for (Class<?> c : inside) {
            hold(Modifier.isStatic(c.getModifiers()), c + " is static");
            hold(!Modifier.isPublic(c.getModifiers()), c + " is not public");
            for (Method m : c.getDeclaredMethods()) {
                hold(m.getParameterCount() <= 7, m + " takes seven at most");
                hold(!(" " + FACE).matches(".* " + m.getName() + "\\d.*"), m + " bears a name of its own");
            }
            fields(c);
        }
    }

    private static void source() throws IOException {
        String text = Files.readString(Path.of("src/main/java/PoundVotes.java"));
        String code = text.replaceAll("(?s)/\\*.*?\\*/", "").replaceAll("//[^\n]*", "");
        for (String word : FORBIDDEN) hold(!Pattern.compile(word).matcher(code).find(), "the source is without " + word);
        Matcher imports = Pattern.compile("import ([^;]*);").matcher(code);
        while (imports.find()) hold(imports.group(1).equals("java.util.Arrays"), "import " + imports.group(1));
        hold(text.chars().allMatch(c -> c < 127), "the source has plain signs alone");
    }

    /** The lines of the document's face and the public lines of the source are the same ones, in the same order. */
    private static void document() throws IOException {
        Path document = Path.of("../shared/DOC.md");
        if (!Files.isReadable(document)) return;
        String told = Files.readString(document).replaceAll("(?s).*```java\n(.*?)```.*", "$1");
        String source = Files.readString(Path.of("src/main/java/PoundVotes.java"));
        hold(publicLines(told).equals(publicLines(source)), "the source has the document's face:\n" + publicLines(source));
    }

    private static String publicLines(String text) {
        StringBuilder lines = new StringBuilder();
        Matcher m = Pattern.compile("(?m)^ *(public [^;{]*)").matcher(text);
        while (m.find()) lines.append(m.group(1).strip()).append('\n');
        return lines.toString();
    }

    public static void main(String[] args) throws IOException {
        face();
        document();
        constants();
        classes();
        source();
        System.out.println(wrong == 0 ? "the face is as told" : wrong + " things are not as told");
        if (wrong != 0) System.exit(1);
    }
}

import java.io.IOException;
import java.lang.management.ManagementFactory;
import java.nio.file.Files;
import java.nio.file.Path;
import java.util.List;
import java.util.Set;
import java.util.TreeSet;
import java.util.regex.Matcher;
import java.util.regex.Pattern;

/** The rules of LANGUAGE.md that the source's text tells, and what its calls leave in the room. */
public final class LanguageTest {
    private static final Checks CHECKS = new Checks();
    private static final Path SOURCE = Path.of("src/main/java/ScoreHandles.java");
    private static final int LINES_MOST = 60;
    private static final int BYTES_OF_A_RUN_MOST = 64;
    private static final int RUNS = 400;
    /** No exception is asked for by the document, so none of their words is needed either. */
    private static final List<String> NOT_THERE = List.of("import ", "package ", "->", "::",
        "try ", "catch ", "finally", "throw", "synchronized", "assert", "instanceof", "record ",
        "native", "volatile", "static {", "getMessage", ".equals(", "hashCode", "System.", "Exact",
        "Double.", "Float.", "Thread", "Object ", "lambda", "while (true)", "for (;;)", "\" +",
        "+ \"", "float ", "double ", "Override", "<>", "var ");

    /** What stands behind a name with a capital and a dot, and whether it is called. */
    private static final Pattern OF_A_CLASS = Pattern.compile("\\b([A-Z]\\w*[a-z]\\w*)\\.(\\w+)(\\()?");
    private static final Pattern CLASS_NAME = Pattern.compile("\\b[A-Z]\\w*[a-z]\\w*\\b");
    private static final Pattern OWN_CLASS = Pattern.compile("\\b(?:class|enum) (\\w+)");

    public static void main(String[] args) throws IOException {
        List<String> lines = Files.readAllLines(SOURCE);
        text(lines);
        library(lines);
        methods(lines);
        room();
        CHECKS.end("LanguageTest");
    }

    private static boolean isComment(String line) {
        String bare = line.strip();
        return bare.startsWith("*") || bare.startsWith("/*") || bare.startsWith("//");
    }

    private static void text(List<String> lines) {
        for (int i = 0; i < lines.size(); i++) {
            String line = lines.get(i);
            CHECKS.holds("line " + (i + 1) + " is short", line.length() <= 100);
            CHECKS.holds("line " + (i + 1) + " has no tab", line.indexOf('\t') < 0);
            CHECKS.holds("line " + (i + 1) + " is plain", line.chars().allMatch(c -> c < 127));
            if (isComment(line)) {
                continue;
            }
            for (String word : NOT_THERE) {
                CHECKS.holds("line " + (i + 1) + " has no " + word, !line.contains(word));
            }
        }
    }

    /** Rule 4: of the library there are functions of Math over int and long, and nothing else. */
    private static void library(List<String> lines) {
        Set<String> own = new TreeSet<>();
        for (String line : lines) {
            Matcher matcher = OWN_CLASS.matcher(line);
            while (!isComment(line) && matcher.find()) {
                own.add(matcher.group(1));
            }
        }
        for (int i = 0; i < lines.size(); i++) {
            String code = isComment(lines.get(i)) ? "" : lines.get(i).replaceAll("//.*", "");
            Matcher name = CLASS_NAME.matcher(code);
            while (name.find()) {
                CHECKS.holds("line " + (i + 1) + " may name " + name.group(),
                    own.contains(name.group()) || name.group().equals("Math"));
            }
            Matcher of = OF_A_CLASS.matcher(code);
            while (of.find()) {
                boolean isFunction = Set.of("min", "max", "abs").contains(of.group(2))
                    && of.group(3) != null;
                CHECKS.holds("line " + (i + 1) + " may have " + of.group(),
                    own.contains(of.group(1)) || of.group(1).equals("Math") && isFunction);
            }
        }
    }

    /** From a line that opens a method or a class inside to the one that closes it. */
    private static void methods(List<String> lines) {
        for (int i = 0; i < lines.size(); i++) {
            String line = lines.get(i);
            boolean opensMethod = line.endsWith(") {")
                && line.strip().matches("(public|private|static|Real\\().*");
            if (!opensMethod) {
                continue;
            }
            String closing = line.replaceAll("\\S.*", "") + "}";
            int end = i;
            while (end < lines.size() && !lines.get(end).equals(closing)) {
                end++;
            }
            CHECKS.holds("method at line " + (i + 1) + " is short", end - i + 1 <= LINES_MOST);
        }
    }

    /** A run makes no object, however many steps it takes, unless a row is NEW. */
    private static void room() {
        ScoreHandles x = new ScoreHandles();
        x.make(7, 7, 0, 0, 0);
        x.make(11, 0, 1, 4, 0);
        x.make(21, 1, 0, 0, 0);
        x.make(19, 2, -1, 0, 0);
        x.type(7, 3, 4, 7, 7, 0);
        x.give(0, 900);
        x.give(1, Double.doubleToLongBits(1));
        x.give(2, Double.doubleToLongBits(1.1));
        CHECKS.due("run before", x.run(2, true), 1);
        com.sun.management.ThreadMXBean bean =
            (com.sun.management.ThreadMXBean) ManagementFactory.getThreadMXBean();
        long before = bean.getCurrentThreadAllocatedBytes();
        long right = 0;
        for (int i = 0; i < RUNS; i++) {
            right += x.run(2, true);
        }
        long made = bean.getCurrentThreadAllocatedBytes() - before;
        CHECKS.due("runs", right, RUNS);
        CHECKS.due("steps", x.last(0), 1801);
        CHECKS.holds("runs made " + made + " bytes", made <= (long) RUNS * BYTES_OF_A_RUN_MOST);
    }
}

import java.io.IOException;
import java.lang.management.ManagementFactory;
import java.nio.file.Files;
import java.nio.file.Path;
import java.util.List;

/** The rules of LANGUAGE.md that the source's text tells, and what its calls leave in the room. */
public final class LanguageTest {
    private static final Checks CHECKS = new Checks();
    private static final Path SOURCE = Path.of("src/main/java/ScoreHandles.java");
    private static final int LINES_MOST = 60;
    private static final int BYTES_OF_A_RUN_MOST = 64;
    private static final int RUNS = 400;
    /** No exception is asked for by the document, so none of their words is needed either. */
    private static final List<String> NOT_THERE = List.of("import ", "package ", "->", "::",
        "try ", "catch ", "finally", "throw", "synchronized", "assert", "instanceof", "record ",
        "native", "volatile", "static {", "getMessage", ".equals(", "hashCode", "System.", "Exact",
        "Double.", "Float.", "Thread", "Object ", "lambda", "while (true)", "for (;;)", "\" +",
        "+ \"", "float ", "double ", "Override", "<>", "var ");

    public static void main(String[] args) throws IOException {
        List<String> lines = Files.readAllLines(SOURCE);
        text(lines);
        methods(lines);
        room();
        CHECKS.end("LanguageTest");
    }

    private static void text(List<String> lines) {
        for (int i = 0; i < lines.size(); i++) {
            String line = lines.get(i);
            String bare = line.strip();
            CHECKS.holds("line " + (i + 1) + " is short", line.length() <= 100);
            CHECKS.holds("line " + (i + 1) + " has no tab", line.indexOf('\t') < 0);
            CHECKS.holds("line " + (i + 1) + " is plain", line.chars().allMatch(c -> c < 127));
            if (bare.startsWith("*") || bare.startsWith("/*") || bare.startsWith("//")) {
                continue;
            }
            for (String word : NOT_THERE) {
                CHECKS.holds("line " + (i + 1) + " has no " + word, !line.contains(word));
            }
        }
    }

    /** From a line that opens a method or a class inside to the one that closes it. */
    private static void methods(List<String> lines) {
        for (int i = 0; i < lines.size(); i++) {
            String line = lines.get(i);
            boolean opensMethod = line.endsWith(") {")
                && line.strip().matches("(public|private|static|Real\\().*");
            if (!opensMethod) {
                continue;
            }
            String closing = line.replaceAll("\\S.*", "") + "}";
            int end = i;
            while (end < lines.size() && !lines.get(end).equals(closing)) {
                end++;
            }
            CHECKS.holds("method at line " + (i + 1) + " is short", end - i + 1 <= LINES_MOST);
        }
    }

    /** A run makes no object, however many steps it takes, unless a row is NEW. */
    private static void room() {
        ScoreHandles x = new ScoreHandles();
        x.make(7, 7, 0, 0, 0);
        x.make(11, 0, 1, 4, 0);
        x.make(21, 1, 0, 0, 0);
        x.make(19, 2, -1, 0, 0);
        x.type(7, 3, 4, 7, 7, 0);
        x.give(0, 900);
        x.give(1, Double.doubleToLongBits(1));
        x.give(2, Double.doubleToLongBits(1.1));
        CHECKS.due("run before", x.run(2, true), 1);
        com.sun.management.ThreadMXBean bean =
            (com.sun.management.ThreadMXBean) ManagementFactory.getThreadMXBean();
        long before = bean.getCurrentThreadAllocatedBytes();
        long right = 0;
        for (int i = 0; i < RUNS; i++) {
            right += x.run(2, true);
        }
        long made = bean.getCurrentThreadAllocatedBytes() - before;
        CHECKS.due("runs", right, RUNS);
        CHECKS.due("steps", x.last(0), 1801);
        CHECKS.holds("runs made " + made + " bytes", made <= (long) RUNS * BYTES_OF_A_RUN_MOST);
    }
}

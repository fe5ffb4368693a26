import java.io.IOException;
import java.nio.file.Files;
import java.nio.file.Path;
import java.util.List;

/** The example of README.md: its lines stand below to the letter, and answer as they say. */
public final class ReadmeTest {
    private static final Checks CHECKS = new Checks();
    private static final Path README = Path.of("README.md");
    private static final Path OWN = Path.of("src/test/java/ReadmeTest.java");

    public static void main(String[] args) throws IOException {
        example();
        standsHere();
        CHECKS.end("ReadmeTest");
    }

    private static void example() {
        // begins
        ScoreHandles x = new ScoreHandles();
        int row = x.row(4, 3);                  // a row of three ints
        x.put(row, 0, 5);
        int read = x.make(2, 4, 0, 0, 0);       // READ: row of ints, int > int
        int quotient = x.make(7, 4, 0, 0, 0);   // QUOTIENT: int, int > int
        int of100 = x.make(14, quotient, 0, 0, 100);    // BIND: 100 by an int
        int both = x.make(17, read, of100, 0, 0);       // THEN: 100 by the item read
        x.type(4, 2, 12, 4, 0, 0);              // the type at hand: row of ints, int > int
        x.give(0, row);
        x.give(1, 0);
        int first = x.run(both, true);          // 1: it ran
        long value = x.value();                 // 20
        x.give(1, 1);
        int second = x.run(both, true);         // -13: it failed by 3, as the item at 1 is 0
        int where = x.last(2);                  // the number of the handle that failed: quotient's
        // ends
        CHECKS.due("the first run", first, 1);
        CHECKS.due("its value", value, 20);
        CHECKS.due("the second run", second, -13);
        CHECKS.due("where it failed", where, quotient);
    }

    private static void standsHere() throws IOException {
        List<String> told = between(Files.readAllLines(README), "```java", "```");
        List<String> run = between(Files.readAllLines(OWN), "// begins", "// ends");
        CHECKS.holds("README.md has an example", !told.isEmpty());
        CHECKS.holds("README.md's example " + told + " is the one run: " + run, told.equals(run));
    }

    private static List<String> between(List<String> lines, String begin, String end) {
        List<String> bare = lines.stream().map(String::strip).toList();
        int from = bare.indexOf(begin) + 1;
        int many = bare.subList(from, bare.size()).indexOf(end);
        return from == 0 || many < 0 ? List.of() : bare.subList(from, from + many);
    }
}

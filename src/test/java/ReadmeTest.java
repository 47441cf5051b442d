import java.io.ByteArrayOutputStream;
import java.io.IOException;
import java.io.PrintStream;
import java.nio.charset.StandardCharsets;
import java.nio.file.DirectoryStream;
import java.nio.file.Files;
import java.nio.file.Path;
import java.util.ArrayList;
import java.util.List;
import java.util.Set;
import java.util.TreeSet;
import java.util.regex.Matcher;
import java.util.regex.Pattern;

/** README.md: its example compiles and answers as it says, as the document asks; it names each test and each call. */
public final class ReadmeTest {
    private static final Path README = Path.of("README.md");
    private static final Path TESTS = Path.of("src/test/java");
    private static final Pattern PRINTED = Pattern.compile("System\\.out\\.println\\(.*\\); +// ([^:]+): .*");

    private static final Check check = new Check();

    public static void main(String[] args) throws IOException {
        readmeShowsTheExample();
        exampleAnswersAsItSays();
        vatAnswersAsTheDocumentAsks();
        dipsAnswerAsTheDocumentAsks();
        orderAnswersAsTheDocumentAsks();
        readmeNamesEachTest();
        readmeNamesEachCall();
        check.end();
    }

    private static List<String> lines(Path file) throws IOException {
        return Files.readAllLines(file, StandardCharsets.UTF_8);
    }

    /** What stands in README.md between its first line ```java and the next line ```. */
    private static List<String> shown() throws IOException {
        List<String> readme = lines(README);
        int first = readme.indexOf("```java") + 1;
        List<String> behind = readme.subList(first, readme.size());
        return first == 0 ? List.of() : behind.subList(0, behind.indexOf("```"));
    }

    /** Example.java is compiled with the tests: what README.md shows compiles, if it is the same. */
    private static void readmeShowsTheExample() throws IOException {
        List<String> due = lines(TESTS.resolve("Example.java"));
        List<String> shown = shown();
        check.due("readme: lines of the example", due.size(), shown::size);
        for (int i = 0; i < Math.min(due.size(), shown.size()); i++) {
            int at = i;
            check.due("readme: line " + (i + 1) + " of the example", due.get(i), () -> shown.get(at));
        }
    }

    private static void exampleAnswersAsItSays() throws IOException {
        List<String> due = new ArrayList<>();
        for (String line : shown()) {
            if (line.contains("println")) {
                Matcher printed = PRINTED.matcher(line.strip());
                due.add(printed.matches() ? printed.group(1) : "no answer behind " + line);
            }
        }
        List<String> got = whatTheExamplePrints();
        check.due("readme: the example shows answers", true, () -> !due.isEmpty());
        check.due("readme: answers of the example", due, () -> got);
    }

    private static List<String> whatTheExamplePrints() {
        PrintStream screen = System.out;
        ByteArrayOutputStream printed = new ByteArrayOutputStream();
        System.setOut(new PrintStream(printed, true, StandardCharsets.UTF_8));
        try {
            Example.main(new String[0]);
        } finally {
            System.setOut(screen);
        }
        return printed.toString(StandardCharsets.UTF_8).lines().toList();
    }

    /** The example's calls on the vat: 5000 wax, four quarters with a fire of the level 5, then of the level 1. */
    private static CandleDip warm() {
        CandleDip x = new CandleDip();
        x.melt(5000);
        x.setFire(5);
        x.pass(4);
        x.setFire(1);
        return x;
    }

    private static void vatAnswersAsTheDocumentAsks() {
        CandleDip x = new CandleDip();
        check.due("readme 2: (20 * 0 + 20 * 5000) / 5000", 20, () -> x.melt(5000));
        check.due("readme 3: at first 0", 0, () -> x.setFire(5));
        check.due("readme 16: 50 - 3, 77 - 5, 102 - 8, 124 - 10", 114, () -> x.pass(4));
        check.due("readme 4: 114 is 60 or more", 1, () -> x.vat(3));
        check.due("readme 3: the level before", 5, () -> x.setFire(1));
    }

    /** The heat at the five dips is 114, 104, 97, 92 and 89; the warmth ahead of them is 0, 45, 62, 67 and 67. */
    private static void dipsAnswerAsTheDocumentAsks() {
        CandleDip x = warm();
        check.due("readme 5: the first frame", 0, () -> x.addFrame(0, 12));
        check.due("readme 6: from aside", -1, () -> x.hang(0, 6));
        check.due("readme 11: it hangs there", 0, () -> x.hook(6));
        check.due("readme 21: the only one", 0, x::advise);
        check.due("readme 18: 10 more, 6 more at 110, (107 - 55) / 5 less at 107", 6, () -> x.would(0, 3));
        check.due("readme 20: the rest", 2, () -> x.bestRest(0, 1));
        check.due("readme 19: they melt without a rest", -1, () -> x.dipsTo(0, 0, 1));
        check.due("readme 19: they melt with a rest of 1", -1, () -> x.dipsTo(0, 1, 1));
        check.due("readme 19: no more than 10, 7, 8, 8 and 9 with a rest of 2", 5, () -> x.dipsTo(0, 2, 1));
        int[] due = {10, 17, 25, 33, 42};
        for (int i = 0; i < due.length; i++) {
            check.due("readme 8: dip " + (i + 1), due[i], () -> x.dip(0));
            if (i < due.length - 1) {
                x.pass(2);
            }
        }
        check.due("readme 10: (67 + 89) / 2", 78, () -> x.frame(0, 3));
        check.due("readme 23: of one frame", 42.0, x::mean);
        check.due("readme 4: 5000 less 96, 67, 76, 76 and 86", 4599, () -> x.vat(0));
        check.due("readme 9: 78 is greater than 20", IllegalStateException.class, () -> x.cutOff(0));
        check.due("readme 6: the hook before", 6, () -> x.hang(0, 0));
        check.due("readme 16: 87, 86, 85, 84 and 83", 83, () -> x.pass(5));
        check.due("readme 10: 78 - 5 * 12", 18, () -> x.frame(0, 3));
        check.due("readme 9: 42 / 40", 1, () -> x.cutOff(0));
        check.due("readme 12: one for each wick", 12, () -> x.store(0, 1));
        check.due("readme 7: the hook before", 0, () -> x.layAside(0));
        check.due("readme 17: 4 and 5 and 4 * 2 and 5", 22, () -> x.count(0));
    }

    private static void orderAnswersAsTheDocumentAsks() {
        CandleDip x = warm();
        Workshop.hung(x, 0, 12, 6);
        Workshop.grow(x, 0, 4);
        x.dip(0);
        x.hang(0, 0);
        x.pass(5);
        x.cutOff(0);
        x.layAside(0);
        check.due("readme 13: the first order", 0, () -> x.addOrder(0, 1, 10, 3));
        check.due("readme 22: 10 of 12", 1, x::possible);
        check.due("readme 14: 12 - 10", 2, () -> x.fill(0));
        check.due("readme 15: it is filled", 1, () -> x.order(0, 4));
        check.due("readme 24: of what is told", checksum(), x::digest);
    }

    private static long checksum() {
        int[] counts = {22, 1, 0, 2, 1, 1, 0, 5, 0};
        int[] vat = {4599, 83, 1, 1};
        int[] frame = {0, 12, 0, 0, 0, -1, 0, 0};
        int[] store = new int[36];
        store[0] = 2;
        int[] order = {0, 1, 10, 3, 1, 0};
        long d = 613;
        for (int[] part : new int[][] {counts, vat, frame, store, order}) {
            for (int x : part) {
                d = d * 31 + x;
            }
        }
        return d;
    }

    /** The tests that README.md lists in its tables are those that .ci/run finds. */
    private static void readmeNamesEachTest() throws IOException {
        Set<String> due = new TreeSet<>();
        try (DirectoryStream<Path> files = Files.newDirectoryStream(TESTS, "*Test.java")) {
            for (Path file : files) {
                due.add(file.getFileName().toString().replace(".java", ""));
            }
        }
        Set<String> named = firstCells("`([A-Za-z]+Test)`");
        check.due("readme: tests that it lists", due, () -> named);
    }

    /** The calls that README.md lists in its tables are those of the public face. */
    private static void readmeNamesEachCall() throws IOException {
        Set<String> due = new TreeSet<>(FaceTest.names());
        Set<String> named = firstCells("`([A-Za-z]+)\\(.*\\)`");
        check.due("readme: calls that it lists", due, () -> named);
    }

    /** From the lines of tables whose first cell is of this form: its first group. */
    private static Set<String> firstCells(String form) throws IOException {
        Pattern row = Pattern.compile("\\| " + form + " \\|.*");
        Set<String> found = new TreeSet<>();
        for (String line : lines(README)) {
            Matcher cell = row.matcher(line);
            if (cell.matches()) {
                found.add(cell.group(1));
            }
        }
        return found;
    }
}

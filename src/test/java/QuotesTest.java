import java.io.IOException;
import java.nio.file.Files;
import java.nio.file.Path;
import java.util.Set;
import java.util.TreeSet;
import java.util.regex.Matcher;
import java.util.regex.Pattern;
import java.util.stream.Stream;

/** Each test of a bound tells its promise and the sentence it rests on, in the document's own words. */
public final class QuotesTest {
    private static final Path DOCUMENT = Path.of("../shared/DOC.md");
    private static final Path TESTS = Path.of("src/test/java");
    private static final Pattern TEST = Pattern.compile("\n(.*)\n    static void (\\w+)\\(\\) \\{");
    private static final Pattern TOLD = Pattern.compile("    /\\*\\* Promise (\\d+): \".*\".* \\*/");
    private static final Pattern QUOTE = Pattern.compile("\"([^\"]+)\"");

    public static void main(String[] args) throws IOException {
        String document = plain(Files.readString(DOCUMENT));
        Set<Integer> promises = new TreeSet<>();
        int tests = 0;
        try (Stream<Path> files = Files.list(TESTS)) {
            for (Path file : files.filter(f -> f.toString().endsWith("BoundsTest.java")).sorted().toList()) {
                tests += look(file, document, promises);
            }
        }
        for (int promise = 1; promise <= 30; promise++) {
            hold("promise " + promise + " has a test of its bounds", promises.contains(promise));
        }
        hold("there are tests of bounds", tests > 0);
        Check.finish();
    }

    private static int look(Path file, String document, Set<Integer> promises) throws IOException {
        Matcher test = TEST.matcher(Files.readString(file));
        int tests = 0;
        while (test.find()) {
            String where = file.getFileName() + ", " + test.group(2);
            Matcher told = TOLD.matcher(test.group(1));
            boolean isTold = told.matches();
            hold(where + " tells its promise and its sentence", isTold);
            if (!isTold) continue;
            tests++;
            promises.add(Integer.parseInt(told.group(1)));
            Matcher quote = QUOTE.matcher(test.group(1));
            while (quote.find()) {
                hold(where + " quotes the document: " + quote.group(1), document.contains(plain(quote.group(1))));
            }
        }
        return tests;
    }

    private static String plain(String text) {
        return text.replaceAll("\\s+", " ").trim();
    }

    private static void hold(String what, boolean holds) {
        Check.due(what, holds ? 1 : 0, 1);
    }
}

import java.io.IOException;
import java.lang.reflect.Method;
import java.lang.reflect.Modifier;
import java.nio.file.Files;
import java.nio.file.Path;
import java.util.Arrays;
import java.util.List;
import java.util.Set;
import java.util.TreeSet;
import java.util.regex.Matcher;
import java.util.regex.Pattern;
import java.util.stream.Stream;

/** README.md against what stands: its example answers as it says, and it names each call and each test. */
public final class ReadmeTest {
    private static final Path PAGE = Path.of("README.md");
    private static final Path TESTS = Path.of("src/test/java");
    private static final Pattern TOWN = Pattern.compile("String town = \"([^\"]*)\";");
    private static final Pattern CALL = Pattern.compile("^x\\.(\\w+)\\(([^)]*)\\); +// (-?\\d+)(?: \\((\\w+)\\))?: .+$");
    private static final Pattern TEST_ROW = Pattern.compile("(?m)^\\| `(\\w+Test)` \\|");

    public static void main(String[] args) throws IOException, ReflectiveOperationException {
        String page = Files.readString(PAGE);
        example(page);
        eachCall(page);
        eachTest(page);
        Check.finish();
    }

    private static void example(String page) throws ReflectiveOperationException {
        Matcher town = TOWN.matcher(page);
        boolean told = town.find();
        hold("README.md tells a town", told);
        if (!told) return;
        DayNames x = new DayNames();
        Check.type(x, town.group(1));
        int calls = 0;
        for (String line : page.lines().filter(l -> l.startsWith("x.")).toList()) {
            Matcher call = CALL.matcher(line);
            boolean reads = call.matches();
            hold("README.md tells a call and its answer: " + line, reads);
            if (!reads) continue;
            calls++;
            Check.due(line, answer(x, call.group(1), call.group(2)), Long.parseLong(call.group(3)));
            if (call.group(4) == null) continue;
            Check.due(line, DayNames.class.getField(call.group(4)).getInt(null), Long.parseLong(call.group(3)));
        }
        hold("README.md has an example", calls > 0);
    }

    private static long answer(DayNames x, String name, String numbers) throws ReflectiveOperationException {
        Object[] arguments = Arrays.stream(numbers.split(", *")).filter(n -> !n.isEmpty()).map(Integer::valueOf).toArray();
        Class<?>[] types = new Class<?>[arguments.length];
        Arrays.fill(types, int.class);
        return ((Number) DayNames.class.getMethod(name, types).invoke(x, arguments)).longValue();
    }

    private static void eachCall(String page) {
        for (Method m : DayNames.class.getDeclaredMethods()) {
            if (!Modifier.isPublic(m.getModifiers())) continue;
            boolean isTold = page.lines().anyMatch(l -> l.startsWith("|") && l.contains("`" + m.getName() + "`"));
            hold("README.md tells what " + m.getName() + " is for", isTold);
        }
    }

    private static void eachTest(String page) throws IOException {
        Set<String> told = new TreeSet<>();
        Matcher row = TEST_ROW.matcher(page);
        while (row.find()) told.add(row.group(1));
        try (Stream<Path> files = Files.list(TESTS)) {
            List<String> tests = files.map(f -> f.getFileName().toString()).filter(f -> f.endsWith("Test.java"))
                .map(f -> f.replace(".java", "")).sorted().toList();
            Check.same("the tests that README.md names", String.join(" ", told), String.join(" ", tests));
        }
    }

    private static void hold(String what, boolean holds) {
        Check.due(what, holds ? 1 : 0, 1);
    }
}

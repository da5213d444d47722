import java.io.IOException;
import java.lang.reflect.Constructor;
import java.lang.reflect.Field;
import java.lang.reflect.Method;
import java.lang.reflect.Modifier;
import java.nio.file.Files;
import java.nio.file.Path;
import java.util.Arrays;
import java.util.List;
import java.util.Map;
import java.util.TreeMap;

/** The rules of LANGUAGE.md that can be seen by the face of the class and by the words of its source. */
public final class SourceTest {
    private static final Path SOURCE = Path.of("src/main/java/DayNames.java");
    private static final List<String> FORBIDDEN = List.of("throw", "try", "catch", "synchronized", "assert", "import",
        "package", "native", "volatile", "transient", "protected", "Object", "System.out", "Exact", "equals", "hashCode");
    private static final String[] FACE = {"type 1", "clear 0", "town 0", "bidder 2", "debt 2", "day 1", "name 2", "now 1",
        "night 0", "bids 2", "undo 0", "inNights 2", "purseIn 2", "falls 1", "buy 3", "hold 3", "ring 3", "found 2",
        "forget 0", "mayBe 3", "plan 1", "unplan 0", "planned 1", "odds 4", "rate 2", "keep 1", "back 1", "count 1",
        "trace 0"};

    public static void main(String[] args) throws IOException {
        face();
        membersOfTheFaceAlone();
        classesInside();
        words(Files.readString(SOURCE));
        nothingMadeByCalls(Files.readAllLines(SOURCE));
        Check.finish();
    }

    private static void face() {
        Map<String, Integer> face = new TreeMap<>();
        for (String call : FACE) face.put(call.split(" ")[0], Integer.parseInt(call.split(" ")[1]));
        int seen = 0;
        for (Method m : DayNames.class.getDeclaredMethods()) {
            if (!Modifier.isPublic(m.getModifiers())) {
                hold("a private method bears the name " + m.getName(), !face.containsKey(m.getName()));
                continue;
            }
            seen++;
            Class<?> answer = m.getName().equals("trace") ? long.class : int.class;
            hold("the call " + m, face.getOrDefault(m.getName(), -1) == m.getParameterCount());
            hold("the answer of " + m, m.getReturnType() == answer && !Modifier.isStatic(m.getModifiers()));
            hold("the arguments of " + m, Arrays.stream(m.getParameterTypes()).allMatch(t -> t == int.class));
        }
        Check.due("how many calls", seen, FACE.length);
        hold("the class is public and final", DayNames.class.getModifiers() == (Modifier.PUBLIC | Modifier.FINAL));
    }

    private static void membersOfTheFaceAlone() {
        List<String> constants = List.of("BAD", "STATE", "FULL", "NONE", "NO");
        for (Method m : DayNames.class.getDeclaredMethods()) {
            hold(m + " is public or private", Modifier.isPublic(m.getModifiers()) || Modifier.isPrivate(m.getModifiers()));
        }
        for (Field f : DayNames.class.getDeclaredFields()) {
            boolean isPublic = Modifier.isPublic(f.getModifiers());
            hold(f + " is as the face tells", isPublic == constants.contains(f.getName()));
            hold(f + " is public or private", isPublic || Modifier.isPrivate(f.getModifiers()));
            hold(f + " is final", Modifier.isFinal(f.getModifiers()));
        }
        Constructor<?>[] made = DayNames.class.getDeclaredConstructors();
        hold("one public constructor", made.length == 1 && Modifier.isPublic(made[0].getModifiers())
            && made[0].getParameterCount() == 0);
    }

    private static void classesInside() {
        Class<?>[] inside = DayNames.class.getDeclaredClasses();
        hold("some twelve classes", inside.length <= 12);
        for (Class<?> c : inside) {
            hold(c + " is private and static", Modifier.isPrivate(c.getModifiers()) && Modifier.isStatic(c.getModifiers()));
            int fields = 0;
            for (Field f : c.getDeclaredFields()) {
                boolean isStatic = Modifier.isStatic(f.getModifiers());
                hold(f + " is final if it is static", !isStatic || Modifier.isFinal(f.getModifiers()));
                if (!isStatic) fields++;
            }
            hold(c + " has some twenty fields", fields <= 20);
            for (Method m : c.getDeclaredMethods()) hold(m + " takes seven at most", m.getParameterCount() <= 7);
        }
    }

    private static void words(String source) {
        String code = source.replaceAll("(?s)/\\*.*?\\*/", "").replaceAll("//[^\n]*", "");
        for (String word : FORBIDDEN) {
            hold("the word " + word + " does not stand in the source", !code.matches("(?s).*\\b" + word + "\\b.*"));
        }
        hold("no lambda and no method reference", !code.contains("->") && !code.contains("::"));
        hold("no text", !code.contains("\""));
        hold("signs 1 to 127 alone", source.chars().allMatch(c -> c >= 1 && c <= 127));
    }

    /** All calls of a run live in one room: rows and objects are made with the object alone. */
    private static void nothingMadeByCalls(List<String> lines) {
        for (String line : lines) {
            if (!line.contains("new ")) continue;
            hold("made with the object: " + line.trim(), line.matches(" +private final \\S+ \\S+ = new .*")
                || line.matches(" +for \\(int i = 0; .*\\) (steps|images)\\[i\\] = new Moment\\(\\);"));
        }
    }

    private static void hold(String what, boolean holds) {
        Check.due(what, holds ? 1 : 0, 1);
    }
}

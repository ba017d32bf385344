import java.io.IOException;
import java.lang.reflect.Method;
import java.lang.reflect.Modifier;
import java.nio.file.Files;
import java.nio.file.Path;
import java.util.List;
import java.util.Set;
import java.util.TreeSet;
import java.util.regex.Matcher;
import java.util.regex.Pattern;
import java.util.stream.Stream;

/**
 * What README.md says is so: each call answers what stands behind it, no call of the face is left
 * out, and the table has every test. It is run from the project's folder.
 */
public final class ReadmeTest {
    private static final Check CHECK = new Check("ReadmeTest");
    private static final Pattern CALL =
            Pattern.compile("archive\\.(\\w+)\\(([^)]*)\\); +// (-?\\d+)(?:: .*)?");
    private static final Pattern TOLD_TEXT =
            Pattern.compile("`tell\\(archive, \"([^\"]*)\"\\)`\\s+answers (-?\\d+)");
    private static final Pattern ROW = Pattern.compile("\\| (\\w+Test) \\| .+ \\|");

    public static void main(String[] args) throws ReflectiveOperationException, IOException {
        List<String> lines = Files.readAllLines(Path.of("README.md"));
        everyCallIsThere(makeCalls(lines));
        toldText(String.join("\n", lines));
        everyTestIsThere(lines);
        CHECK.end();
    }

    /** Makes the calls of all blocks of Java: the names of those that were made. */
    private static Set<String> makeCalls(List<String> lines) throws ReflectiveOperationException {
        Set<String> made = new TreeSet<>();
        SealPrints archive = null;
        for (String line : lines) {
            if (line.startsWith("```")) {
                archive = null;
            } else if (line.equals("SealPrints archive = new SealPrints();")) {
                archive = new SealPrints();
            } else if (line.startsWith("archive.")) {
                Matcher m = CALL.matcher(line);
                boolean isCall = m.matches() && archive != null;
                CHECK.holds("a call with its answer: " + line, isCall);
                if (isCall) {
                    CHECK.due(line, call(archive, m.group(1), m.group(2)),
                            Long.parseLong(m.group(3)));
                    made.add(m.group(1));
                }
            }
        }
        return made;
    }

    private static long call(SealPrints archive, String name, String told)
            throws ReflectiveOperationException {
        String[] words = told.isEmpty() ? new String[0] : told.split(", ");
        for (Method m : SealPrints.class.getMethods()) {
            if (m.getDeclaringClass() == SealPrints.class && m.getName().equals(name)
                    && m.getParameterCount() == words.length) {
                Object[] values = new Object[words.length];
                for (int i = 0; i < words.length; i++) {
                    values[i] = value(words[i], m.getParameterTypes()[i]);
                }
                return ((Number) m.invoke(archive, values)).longValue();
            }
        }
        CHECK.holds("the face has " + name + "(" + told + ")", false);
        return 0;
    }

    private static Object value(String word, Class<?> type) {
        if (type == boolean.class) {
            CHECK.holds(word + " is true or false", word.equals("true") || word.equals("false"));
            return word.equals("true");
        }
        CHECK.holds(word + " is a long just where one is asked",
                word.endsWith("L") == (type == long.class));
        String digits = word.replace("L", "");
        long number = digits.startsWith("0b") ? Long.parseLong(digits.substring(2), 2)
                : Long.decode(digits);
        if (type == long.class) {
            return number;
        }
        return Math.toIntExact(number);
    }

    private static void everyCallIsThere(Set<String> made) {
        for (Method m : SealPrints.class.getDeclaredMethods()) {
            if (Modifier.isPublic(m.getModifiers())) {
                CHECK.holds("README.md has " + m.getName(), made.contains(m.getName()));
            }
        }
    }

    private static void toldText(String page) {
        Matcher m = TOLD_TEXT.matcher(page);
        CHECK.holds("README.md tells a text", m.find());
        CHECK.due(m.group(1), Check.tell(new SealPrints(), m.group(1)),
                Long.parseLong(m.group(2)));
    }

    private static void everyTestIsThere(List<String> lines) throws IOException {
        Set<String> told = new TreeSet<>();
        for (String line : lines) {
            Matcher m = ROW.matcher(line);
            if (m.matches()) {
                told.add(m.group(1));
            }
        }
        Set<String> there = new TreeSet<>();
        try (Stream<Path> files = Files.list(Path.of("src/test/java"))) {
            files.map(f -> f.getFileName().toString()).filter(f -> f.endsWith("Test.java"))
                    .forEach(f -> there.add(f.replace(".java", "")));
        }
        CHECK.holds("the table has the tests " + there + ", it has " + told, told.equals(there));
    }
}

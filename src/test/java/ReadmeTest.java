import java.io.IOException;
import java.lang.reflect.Method;
import java.lang.reflect.Modifier;
import java.nio.file.Files;
import java.nio.file.Path;
import java.util.List;
import java.util.Set;
import java.util.TreeSet;
import java.util.regex.Matcher;
import java.util.regex.Pattern;

/** The examples of README.md answer what it says beside them, and its table has every call of the class. */
final class ReadmeTest {
    private static final Pattern EXAMPLE =
        Pattern.compile("finder\\.(\\w+)\\(([-0-9, ]*)\\); +// (true|false|CutFinder\\.BAD|\\d+)(:.*)?");
    private static final Pattern ROW = Pattern.compile("\\| `(?:int|boolean) (\\w+)\\(.*\\)` \\|.*\\|");

    private ReadmeTest() {
    }

    public static void main(String[] args) throws IOException, ReflectiveOperationException {
        List<String> lines = Files.readAllLines(Path.of("README.md"));
        Checks.due("README.md: the calls in the examples are all", examples(lines).equals(calls()), true);
        Checks.due("README.md: the calls in the table are all", rows(lines).equals(calls()), true);
        Checks.end();
    }

    private static Set<String> calls() {
        Set<String> names = new TreeSet<>();
        for (Method method : CutFinder.class.getDeclaredMethods()) {
            if (Modifier.isPublic(method.getModifiers())) {
                names.add(method.getName());
            }
        }
        return names;
    }

    private static Set<String> rows(List<String> lines) {
        Set<String> names = new TreeSet<>();
        for (String line : lines) {
            Matcher row = ROW.matcher(line);
            if (row.matches()) {
                names.add(row.group(1));
            }
        }
        return names;
    }

    /** Asks one object the examples in their order, as a reader would. */
    private static Set<String> examples(List<String> lines) throws ReflectiveOperationException {
        CutFinder finder = new CutFinder();
        Set<String> names = new TreeSet<>();
        for (String line : lines) {
            if (line.startsWith("finder.")) {
                Matcher example = EXAMPLE.matcher(line);
                Checks.due("README.md: an example has its answer: " + line, example.matches(), true);
                if (example.matches()) {
                    names.add(example.group(1));
                    Checks.due("README.md: " + line, ask(finder, example.group(1), example.group(2)), number(example.group(3)));
                }
            }
        }
        return names;
    }

    private static long ask(CutFinder finder, String name, String list) throws ReflectiveOperationException {
        String[] words = list.isBlank() ? new String[0] : list.split(", ");
        Object[] numbers = new Object[words.length];
        Class<?>[] types = new Class<?>[words.length];
        for (int i = 0; i < words.length; i++) {
            numbers[i] = Integer.valueOf(words[i]);
            types[i] = int.class;
        }
        return number(CutFinder.class.getMethod(name, types).invoke(finder, numbers).toString());
    }

    private static long number(String word) {
        switch (word) {
            case "true": return 1;
            case "false": return 0;
            case "CutFinder.BAD": return Checks.BAD;
            default: return Long.parseLong(word);
        }
    }
}

import java.io.IOException;
import java.lang.reflect.Method;
import java.lang.reflect.Modifier;
import java.nio.file.Files;
import java.nio.file.Path;
import java.util.HashMap;
import java.util.List;
import java.util.Map;
import java.util.regex.Matcher;
import java.util.regex.Pattern;
import java.util.stream.Collectors;
import java.util.stream.Stream;

/** README.md is true: its calls answer what it says, and it leaves out no call and no test. */
public final class ReadmeTest {
    private static final Pattern CALL = Pattern.compile(
            "(?:int (\\w+) = )?town\\.(\\w+)\\((.*?)\\);\\s*// (-?\\d+|true|false)(?![\\w-]).*");

    private static int wrong = 0;
    private static int checks = 0;

    private ReadmeTest() {
    }

    private static void must(String what, boolean is) {
        checks++;
        if (!is) {
            wrong++;
            System.out.println("README.md: " + what);
        }
    }

    private static Method methodOf(String name) {
        for (Method m : TollsForLate.class.getDeclaredMethods()) {
            if (m.getName().equals(name) && Modifier.isPublic(m.getModifiers())) {
                return m;
            }
        }
        return null;
    }

    private static Object valueOf(String word, Map<String, Object> names) {
        if (names.containsKey(word)) {
            return names.get(word);
        }
        if (word.equals("true") || word.equals("false")) {
            return word.equals("true");
        }
        return Integer.decode(word);
    }

    private static Object answerOf(TollsForLate town, String name, String words,
            Map<String, Object> names) throws ReflectiveOperationException {
        String[] parts = words.isBlank() ? new String[0] : words.split(",\\s*");
        Object[] values = new Object[parts.length];
        for (int i = 0; i < parts.length; i++) {
            values[i] = valueOf(parts[i], names);
        }
        Method method = methodOf(name);
        return method == null ? "nothing" : method.invoke(town, values);
    }

    private static void play(List<String> lines) throws ReflectiveOperationException {
        TollsForLate town = null;
        Map<String, Object> names = new HashMap<>();
        for (String line : lines) {
            if (line.contains("new TollsForLate()")) {
                town = new TollsForLate();
                names.clear();
                continue;
            }
            if (line.isBlank() || line.startsWith("//")) {
                continue;
            }
            Matcher call = CALL.matcher(line);
            boolean reads = town != null && call.matches();
            must("a call with its answer: " + line, reads);
            if (reads) {
                Object got = answerOf(town, call.group(2), call.group(3), names);
                must(line + " answered " + got, got.toString().equals(call.group(4)));
                if (call.group(1) != null) {
                    names.put(call.group(1), got);
                }
            }
        }
    }

    private static void leavesNothingOut(String page) throws IOException {
        for (Method m : TollsForLate.class.getDeclaredMethods()) {
            if (Modifier.isPublic(m.getModifiers())) {
                must("no word of " + m.getName(), page.contains("`" + m.getName() + "`"));
            }
        }
        try (Stream<Path> files = Files.list(Path.of("src/test/java"))) {
            for (Path file : files.collect(Collectors.toList())) {
                String name = file.getFileName().toString();
                must("no word of " + name, !name.endsWith("Test.java") || page.contains(name));
            }
        }
        must("how to run the tests", page.contains("    .ci/run\n"));
    }

    public static void main(String[] args) throws IOException, ReflectiveOperationException {
        String page = Files.readString(Path.of("README.md"));
        Matcher blocks = Pattern.compile("(?s)```java\n(.*?)```").matcher(page);
        int count = 0;
        while (blocks.find()) {
            count++;
            play(List.of(blocks.group(1).split("\n")));
        }
        must("two examples", count >= 2);
        leavesNothingOut(page);
        System.out.println(wrong == 0 ? checks + " words of README.md hold"
                : wrong + " words of README.md do not hold");
        if (wrong != 0) {
            System.exit(1);
        }
    }
}

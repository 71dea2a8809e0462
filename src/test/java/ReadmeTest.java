import java.io.IOException;
import java.lang.reflect.Method;
import java.nio.file.Files;
import java.nio.file.Path;
import java.util.Set;
import java.util.TreeSet;
import java.util.regex.Matcher;
import java.util.regex.Pattern;

/** What README.md tells of calls is so: each of its Java lines ends with the answer. Run from the project's folder. */
public final class ReadmeTest {
    private static final String HOUSE = "RoundMill house = new RoundMill();";
    private static final Pattern CALL = Pattern.compile("house\\.(\\w+)\\((.*)\\); +// (true|false|-?\\d+)(: .*)?");

    private RoundMill house;
    private final Set<String> called = new TreeSet<>();

    private ReadmeTest() {
    }

    public static void main(String[] args) throws IOException, ReflectiveOperationException {
        String text = Files.readString(Path.of("README.md"));
        ReadmeTest test = new ReadmeTest();
        Matcher block = Pattern.compile("(?s)```java\n(.*?)```").matcher(text);
        while (block.find()) {
            for (String line : block.group(1).split("\n")) {
                test.follow(line);
            }
        }
        for (Method m : RoundMill.class.getDeclaredMethods()) {
            boolean face = java.lang.reflect.Modifier.isPublic(m.getModifiers());
            Due.yes("README.md calls " + m.getName(), !face || test.called.contains(m.getName()));
        }
        Due.yes("README.md tells how to run the tests", text.contains("\n.ci/run\n"));
        seeTests(text);
        Due.end();
    }

    private void follow(String line) throws ReflectiveOperationException {
        if (line.equals(HOUSE)) {
            house = new RoundMill();
            return;
        }
        Matcher call = CALL.matcher(line);
        boolean told = call.matches() && house != null;
        Due.yes("a call with its answer: " + line, told);
        if (told) {
            Object got = answer(call.group(1), call.group(2).isEmpty() ? new String[0] : call.group(2).split(", "));
            Due.yes(line + " answered " + got, got.toString().equals(call.group(3)));
        }
    }

    private Object answer(String name, String[] numbers) throws ReflectiveOperationException {
        called.add(name);
        for (Method m : RoundMill.class.getMethods()) {
            if (m.getName().equals(name) && m.getParameterCount() == numbers.length) {
                Object[] values = new Object[numbers.length];
                for (int i = 0; i < values.length; i++) {
                    boolean isLong = m.getParameterTypes()[i] == long.class;
                    values[i] = isLong ? (Object) Long.valueOf(numbers[i].replace("L", ""))
                        : (Object) Integer.valueOf(numbers[i]);
                }
                return m.invoke(house, values);
            }
        }
        return "nothing, there is no such call";
    }

    private static void seeTests(String text) throws IOException {
        try (var files = Files.list(Path.of("src/test/java"))) {
            for (Path file : files.toList()) {
                String name = file.getFileName().toString().replace(".java", "");
                Due.yes("README.md tells of " + name, !name.endsWith("Test") || text.contains("`" + name + "`"));
            }
        }
    }
}

import java.lang.reflect.Method;
import java.lang.reflect.Modifier;
import java.nio.file.Files;
import java.nio.file.Path;
import java.util.regex.Matcher;
import java.util.regex.Pattern;
import java.util.stream.Stream;

/** README.md tells no answer that the class does not give, and leaves out no call, no constant and no test. */
public final class ReadmeTest {
    private static final Pattern TEXT = Pattern.compile("\"([^\"]*)\"\\.toCharArray\\(\\)");
    private static final Pattern CALL = Pattern.compile("^(green\\.(\\w+)\\(([-\\d, ]*)\\));\\s+// (-?\\d+|[A-Z]+)\\b.*");
    private static final Due DUE = new Due();

    public static void main(String[] args) throws Exception {
        String page = Files.readString(Path.of("README.md"));
        example(page.substring(page.indexOf("```java\n") + 8, page.indexOf("```\n", page.indexOf("```java\n"))));
        tables(page);
        DUE.end();
    }

    private static void example(String code) throws Exception {
        HourGreen green = new HourGreen();
        int calls = 0;
        for (String line : code.split("\n")) {
            Matcher text = TEXT.matcher(line);
            if (text.find()) {
                Due.write(green, text.group(1));
            }
            Matcher call = CALL.matcher(line);
            if (call.matches()) {
                calls++;
                DUE.is(call.group(1), answer(green, call.group(2), call.group(3)), number(call.group(4)));
            } else {
                DUE.is("a call with its answer: " + line, line.startsWith("green.") ? 1 : 0, 0);
            }
        }
        DUE.is("an example with calls", calls > 0 ? 1 : 0, 1);
    }

    private static int answer(HourGreen green, String name, String numbers) throws Exception {
        Object[] given = numbers.isEmpty() ? new Object[0]
            : Stream.of(numbers.split(", ")).map(Integer::valueOf).toArray();
        Class<?>[] types = Stream.of(given).map(one -> int.class).toArray(Class<?>[]::new);
        return (Integer) HourGreen.class.getMethod(name, types).invoke(green, given);
    }

    private static int number(String word) throws Exception {
        return word.matches("[A-Z]+") ? HourGreen.class.getField(word).getInt(null) : Integer.parseInt(word);
    }

    private static void tables(String page) throws Exception {
        for (Method m : HourGreen.class.getDeclaredMethods()) {
            if (Modifier.isPublic(m.getModifiers())) {
                String row = "(?s).*\n\\| `" + m.getName() + "\\(" + "\\w+, ".repeat(Math.max(0, m.getParameterCount() - 1))
                    + (m.getParameterCount() > 0 ? "\\w+" : "") + "\\)` \\|.*";
                DUE.is("a row for " + m.getName(), page.matches(row) ? 1 : 0, 1);
            }
        }
        for (String name : new String[] {"BAD", "NO", "FULL", "NONE"}) {
            DUE.is("a row for " + name, page.contains("\n| `" + name + "` (" + number(name) + ") |") ? 1 : 0, 1);
        }
        try (Stream<Path> files = Files.list(Path.of("src/test/java"))) {
            files.map(file -> file.getFileName().toString()).filter(name -> name.endsWith("Test.java"))
                .forEach(name -> DUE.is("a row for " + name,
                    page.contains("\n| `" + name.replace(".java", "") + "` |") ? 1 : 0, 1));
        }
    }
}

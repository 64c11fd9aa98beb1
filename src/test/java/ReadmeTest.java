import java.io.IOException;
import java.lang.reflect.InvocationTargetException;
import java.lang.reflect.Method;
import java.lang.reflect.Modifier;
import java.nio.file.Files;
import java.nio.file.Path;
import java.util.List;
import java.util.regex.Matcher;
import java.util.regex.Pattern;
import java.util.stream.Collectors;
import java.util.stream.Stream;

/** README.md says what is so: its example answers as told, and it names every call and every test. */
public final class ReadmeTest {
    static final Pattern CALL = Pattern.compile("x\\.(\\w+)\\(([^)]*)\\);\\s+// (-?\\d+).*");
    static final Pattern TEXT = Pattern.compile("String text = \"([^\"]*)\";");
    static int wrong = 0;
    static int checks = 0;

    static void due(String what, boolean holds) {
        checks++;
        if (!holds) {
            wrong++;
            System.out.println("README.md: " + what);
        }
    }

    static Method call(String name) {
        for (Method m : StampSheets.class.getMethods()) {
            if (m.getName().equals(name) && m.getDeclaringClass() == StampSheets.class) {
                return m;
            }
        }
        throw new IllegalStateException("no call " + name);
    }

    static Object[] numbers(String told) {
        return told.isEmpty() ? new Object[0]
                : Stream.of(told.split(", ")).map(Integer::valueOf).toArray();
    }

    static void example(String page) throws IllegalAccessException, InvocationTargetException {
        String code = page.substring(page.indexOf("```java"), page.indexOf("```", page.indexOf("```java") + 3));
        Matcher text = TEXT.matcher(code);
        due("its example tells a text", text.find());
        StampSheets x = new StampSheets();
        for (char sign : text.group(1).toCharArray()) {
            x.feed(sign);
        }
        int calls = 0;
        for (String line : code.split("\n")) {
            Matcher m = CALL.matcher(line);
            if (m.matches()) {
                long got = ((Number) call(m.group(1)).invoke(x, numbers(m.group(2)))).longValue();
                due(line + " answered " + got, got == Long.parseLong(m.group(3)));
                calls++;
            } else {
                due("tells no answer: " + line, !line.startsWith("x."));
            }
        }
        due("its example calls", calls > 10);
    }

    static void names(String page) throws IOException {
        for (Method m : StampSheets.class.getDeclaredMethods()) {
            if (Modifier.isPublic(m.getModifiers())) {
                due("names " + m.getName(), page.contains("`" + m.getName() + "`"));
            }
        }
        due("NONE", page.contains("| " + StampSheets.NONE + " | `NONE` |"));
        due("BAD", page.contains("| " + StampSheets.BAD + " | `BAD` |"));
        due("STATE", page.contains("| " + StampSheets.STATE + " | `STATE` |"));
        due("FULL", page.contains("| " + StampSheets.FULL + " | `FULL` |"));
        try (Stream<Path> files = Files.list(Path.of("src/test/java"))) {
            List<String> tests = files.map(f -> f.toString().replace('\\', '/')).collect(Collectors.toList());
            for (String test : tests) {
                due("names " + test, page.contains("`" + test + "`"));
            }
        }
    }

    public static void main(String[] args) throws IOException, IllegalAccessException, InvocationTargetException {
        String page = Files.readString(Path.of("README.md"));
        example(page);
        names(page);
        System.out.println(wrong == 0 ? checks + " words of README.md are so" : wrong + " words are not so");
        if (wrong != 0) {
            System.exit(1);
        }
    }
}

import java.io.IOException;
import java.lang.reflect.InvocationTargetException;
import java.lang.reflect.Method;
import java.lang.reflect.Modifier;
import java.nio.file.Files;
import java.nio.file.Path;
import java.util.HashMap;
import java.util.List;
import java.util.Map;
import java.util.regex.Matcher;
import java.util.regex.Pattern;
import java.util.stream.Stream;

/** README.md tells no other answers than the class, and leaves out no method and no test. Runs in the project's folder. */
public final class ReadmeTest {
    private static final Path README = Path.of("README.md");
    private static final Path TESTS = Path.of("src/test/java");
    private static final Pattern MADE = Pattern.compile("OdometerRing (\\w+) = new OdometerRing\\(\\);.*");
    private static final Pattern WRITTEN = Pattern.compile("for \\(char c : \"(\\w+)\"\\.toCharArray\\(\\)\\) (\\w+)\\.append\\(c\\);");
    private static final Pattern CALLED = Pattern.compile("(\\w+)\\.(\\w+)\\(([-0-9, L]*)\\); *// (-?[0-9]+|NONE|[A-Za-z]+Exception): .+");

    private final Map<String, OdometerRing> objects = new HashMap<>();
    private int calls = 0;

    private void example(String line) {
        Matcher made = MADE.matcher(line);
        Matcher written = WRITTEN.matcher(line);
        Matcher called = CALLED.matcher(line);
        if (made.matches()) {
            objects.put(made.group(1), new OdometerRing());
        } else if (written.matches()) {
            Due.write(objects.get(written.group(2)), written.group(1));
        } else {
            Due.dueText("a line that can be read: " + line, called.matches() ? "yes" : "no", "yes");
            if (called.matches()) {
                calls++;
                String want = called.group(4).equals("NONE") ? Integer.toString(OdometerRing.NONE) : called.group(4);
                Due.dueText(line, answer(objects.get(called.group(1)), called.group(2), called.group(3)), want);
            }
        }
    }

    private static String answer(OdometerRing x, String name, String words) {
        String[] given = words.isEmpty() ? new String[0] : words.split(", *");
        for (Method m : OdometerRing.class.getMethods()) {
            if (m.getName().equals(name) && m.getParameterCount() == given.length) {
                try {
                    return m.invoke(x, arguments(m.getParameterTypes(), given)).toString();
                } catch (InvocationTargetException thrown) {
                    return thrown.getCause().getClass().getSimpleName();
                } catch (IllegalAccessException hidden) {
                    return hidden.toString();
                }
            }
        }
        return "no such method";
    }

    private static Object[] arguments(Class<?>[] types, String[] given) {
        Object[] all = new Object[given.length];
        for (int k = 0; k < given.length; k++) {
            long number = Long.parseLong(given[k].replace("L", ""));
            all[k] = types[k] == long.class ? (Object) number : (Object) Math.toIntExact(number);
        }
        return all;
    }

    private void examples(List<String> lines) {
        boolean inside = false;
        for (String line : lines) {
            if (line.startsWith("```")) {
                inside = line.equals("```java");
            } else if (inside) {
                example(line);
            }
        }
        Due.due("there are examples", calls > 0 ? 1 : 0, 1);
    }

    private static void dueNamed(String page, String words) {
        Due.dueText("named: " + words, page.contains(words) ? "yes" : "no", "yes");
    }

    private static void methodsAndTests(String page) throws IOException {
        for (Method m : OdometerRing.class.getDeclaredMethods()) {
            if (Modifier.isPublic(m.getModifiers())) {
                dueNamed(page, "`" + m.getName() + "`");
            }
        }
        try (Stream<Path> files = Files.list(TESTS)) {
            for (Path file : files.toList()) {
                String name = file.getFileName().toString().replace(".java", "");
                dueNamed(page, name.endsWith("Test") ? "| " + name + " |" : "`" + name + "`");
            }
        }
    }

    public static void main(String[] args) throws IOException {
        new ReadmeTest().examples(Files.readAllLines(README));
        methodsAndTests(Files.readString(README));
        Due.finish();
    }
}

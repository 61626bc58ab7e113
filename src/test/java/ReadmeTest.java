import java.io.IOException;
import java.lang.reflect.InvocationTargetException;
import java.lang.reflect.Method;
import java.nio.file.Files;
import java.nio.file.Path;
import java.util.List;
import java.util.regex.Matcher;
import java.util.regex.Pattern;

/** Makes every call that README.md shows, in its order: each must answer what stands behind it. */
public final class ReadmeTest {
    private static final Pattern CALL = Pattern.compile("bar\\.(\\w+)\\(([^)]*)\\); // ([^:]+)(:.*)?");
    private static final String START = "NextAtBar bar = new NextAtBar();";

    private final Checks checks = new Checks();
    private NextAtBar bar;
    private int calls;
    // What the page feeds up to its first house(), and the text that it says it feeds.
    private final StringBuilder fed = new StringBuilder();
    private final StringBuilder text = new StringBuilder();
    private boolean housed;

    private static Method method(String name) {
        for (Method m : NextAtBar.class.getMethods()) {
            if (m.getName().equals(name)) {
                return m;
            }
        }
        throw new IllegalArgumentException("README.md calls " + name + ", which is none of the face");
    }

    private static String answer(Object on, String name, String arguments) throws IllegalAccessException {
        String[] told = arguments.isEmpty() ? new String[0] : arguments.split(", *");
        Object[] given = new Object[told.length];
        for (int i = 0; i < told.length; i++) {
            given[i] = told[i].matches("true|false") ? (Object) Boolean.valueOf(told[i]) : Integer.valueOf(told[i]);
        }
        try {
            return String.valueOf(method(name).invoke(on, given));
        } catch (InvocationTargetException e) {
            return "throws " + e.getCause().getClass().getSimpleName();
        }
    }

    private void addBytes(String numbers) {
        for (String number : numbers.split(", *")) {
            for (int shift = 24; shift >= 0; shift -= 8) {
                fed.append((char) (Integer.parseInt(number) >> shift & 255));
            }
        }
    }

    private void line(String line) throws IllegalAccessException {
        if (line.equals(START)) {
            bar = new NextAtBar();
            return;
        }
        Matcher m = CALL.matcher(line);
        if (!m.matches() || bar == null) {
            checks.due("README.md, a line that is no call: " + line, false, true);
            return;
        }
        housed |= m.group(1).equals("house");
        if (!housed && m.group(1).equals("feed")) {
            addBytes(m.group(2));
        }
        String got = answer(bar, m.group(1), m.group(2));
        checks.due("README.md: " + line + " (it was " + got + ")", got.equals(m.group(3)), true);
        calls++;
    }

    public static void main(String[] args) throws IOException, IllegalAccessException {
        ReadmeTest test = new ReadmeTest();
        List<String> lines = Files.readAllLines(Path.of(args.length > 0 ? args[0] : "README.md"));
        String fence = "```";
        for (String line : lines) {
            if (line.startsWith("```")) {
                fence = line;
            } else if (fence.equals("```java")) {
                test.line(line);
            } else if (fence.equals("```text")) {
                test.text.append(line);
            }
        }
        test.checks.due("README.md feeds its text", test.fed.toString().trim().equals(test.text.toString()), true);
        // A page that lost its calls would pass with none.
        test.checks.due("README.md has a text told, a call refused, trouble()", test.calls > 40, true);
        test.checks.end();
    }
}

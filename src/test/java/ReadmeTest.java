import java.io.IOException;
import java.lang.reflect.Method;
import java.lang.reflect.Modifier;
import java.nio.file.Files;
import java.nio.file.Path;
import java.util.List;
import java.util.regex.Matcher;
import java.util.regex.Pattern;

/** Plays the examples of README.md line by line, so that what the page says of the class stays true. */
public final class ReadmeTest {
    private static final Pattern CALL = Pattern.compile("x\\.(\\w+)\\(([^)]*)\\); *// (-?\\d+): .+");
    private static final Pattern FEED = Pattern.compile("feed\\(x, \"([^\"]*)\"\\);");
    private static final String NEW = "HeadHats x = new HeadHats();";
    private static final int EXAMPLES = 4;

    private HeadHats x = null;
    private int examples = 0;

    public static void main(String[] args) throws IOException, ReflectiveOperationException {
        Path page = Path.of("README.md");
        new ReadmeTest().play(Files.readAllLines(page));
        namesEveryCall(Files.readString(page));
        Due.end();
    }

    private void play(List<String> lines) throws ReflectiveOperationException {
        boolean inExample = false;
        for (String line : lines) {
            if (line.equals("```java")) {
                inExample = true;
            } else if (line.equals("```")) {
                inExample = false;
            } else if (inExample) {
                playLine(line);
            }
        }
        Due.dueTrue("README.md: " + examples + " examples were found", examples == EXAMPLES);
    }

    private void playLine(String line) throws ReflectiveOperationException {
        Matcher call = CALL.matcher(line);
        Matcher feed = FEED.matcher(line);
        if (line.equals(NEW)) {
            x = new HeadHats();
            examples++;
        } else if (x != null && feed.matches()) {
            Due.feed(x, feed.group(1));
        } else if (x != null && call.matches()) {
            long got = answer(call.group(1), call.group(2));
            Due.dueTrue("README.md: " + line + " answered " + got, got == Long.parseLong(call.group(3)));
        } else {
            Due.dueTrue("README.md: a line that can't be played: " + line, false);
        }
    }

    private long answer(String name, String told) throws ReflectiveOperationException {
        String[] numbers = told.isEmpty() ? new String[0] : told.split(", ");
        Method method = null;
        for (Method m : HeadHats.class.getMethods()) {
            if (m.getName().equals(name) && m.getParameterCount() == numbers.length) {
                method = m;
            }
        }
        if (method == null) {
            Due.dueTrue("README.md: no such call: " + name, false);
            return 0;
        }
        Object[] values = new Object[numbers.length];
        for (int i = 0; i < numbers.length; i++) {
            if (method.getParameterTypes()[i] == long.class) {
                values[i] = Long.valueOf(numbers[i]);
            } else {
                values[i] = Integer.valueOf(numbers[i]);
            }
        }
        return ((Number) method.invoke(x, values)).longValue();
    }

    private static void namesEveryCall(String page) {
        for (Method m : HeadHats.class.getDeclaredMethods()) {
            if (Modifier.isPublic(m.getModifiers())) {
                Due.dueTrue("README.md doesn't name " + m.getName(), page.contains("`" + m.getName() + "`"));
            }
        }
    }
}

import java.io.IOException;
import java.lang.reflect.InvocationTargetException;
import java.lang.reflect.Method;
import java.nio.file.Files;
import java.nio.file.Path;
import java.util.ArrayList;
import java.util.HashSet;
import java.util.List;
import java.util.Set;
import java.util.regex.Matcher;
import java.util.regex.Pattern;

/** README.md's example, as it stands there: each call is made, its answer is the one behind it. */
public final class ReadmeTest {
    private static final Path README = Path.of("README.md");
    private static final Path SOURCE = Path.of("src/test/java/ReadmeTest.java");
    private static final Pattern CALL = Pattern.compile("x\\.(\\w+)\\(([^)\\[]*)\\);(?:\\s+// (.+))?");
    private static final Pattern TELL = Pattern.compile("tell\\(x, \"([^\"]*)\"\\);\\s+// (-?\\d+)");
    private static final Pattern QUOTED = Pattern.compile("`(\\w+)`");
    private static final Due due = new Due("ReadmeTest");

    private static RainWishes x;

    public static void main(String[] args) throws IOException, IllegalAccessException {
        String readme = Files.readString(README);
        List<String> helper = new ArrayList<>();
        int calls = 0;
        for (String line : javaLines(readme)) {
            if (line.equals("RainWishes x = new RainWishes();")) {
                x = new RainWishes();
            } else if (TELL.matcher(line).matches()) {
                told(TELL.matcher(line));
                calls++;
            } else if (line.startsWith("x.") && CALL.matcher(line).matches()) {
                made(CALL.matcher(line), line);
                calls++;
            } else {
                helper.add(line);
            }
        }
        due.holds("README.md makes calls: " + calls, calls > 50);
        helperIsThis(helper);
        textIsTold(readme);
        eachCallIsNamed(readme);
        due.end();
    }

    // README.md's helper, line by line as it stands there.
    static int tell(RainWishes x, String text) {
        int[] five = new int[5];
        int fed = (text.length() + 19) / 20 * 20;
        for (int k = 0; k < fed; k++) {
            int at = k % 20 / 4;
            five[at] = five[at] << 8 | (k < text.length() ? text.charAt(k) : ' ');
            if (k % 20 == 19) {
                x.feed(five[0], five[1], five[2], five[3], five[4]);
            }
        }
        return x.sky(text.length());
    }

    private static List<String> javaLines(String readme) {
        List<String> lines = new ArrayList<>();
        boolean inside = false;
        for (String line : readme.split("\n")) {
            if (line.startsWith("```")) {
                inside = line.equals("```java");
            } else if (inside && !line.isBlank()) {
                lines.add(line.trim());
            }
        }
        return lines;
    }

    private static void told(Matcher line) {
        line.matches();
        due.is("tell " + line.group(1), tell(x, line.group(1)), Long.parseLong(line.group(2)));
    }

    private static void made(Matcher line, String call) throws IllegalAccessException {
        line.matches();
        String want = line.group(3) == null ? "nothing" : line.group(3).trim();
        String got = answer(line.group(1), line.group(2));
        due.holds(call + " answered " + got, got.equals(want.equals("NONE") ? "-1" : want));
    }

    private static String answer(String name, String given) throws IllegalAccessException {
        Method method = named(name);
        Class<?>[] types = method.getParameterTypes();
        String[] words = given.isEmpty() ? new String[0] : given.split(", ");
        Object[] values = new Object[types.length];
        for (int k = 0; k < types.length; k++) {
            values[k] = valueOf(types[k], words[k]);
        }
        try {
            Object got = method.invoke(x, values);
            return method.getReturnType() == void.class ? "nothing" : String.valueOf(got);
        } catch (InvocationTargetException e) {
            return "throws " + e.getCause().getClass().getSimpleName();
        }
    }

    private static Method named(String name) {
        for (Method method : RainWishes.class.getMethods()) {
            if (method.getName().equals(name)) {
                return method;
            }
        }
        throw new IllegalStateException("README.md calls " + name + ", which is not there");
    }

    private static Object valueOf(Class<?> type, String word) {
        if (type == boolean.class) {
            return Boolean.valueOf(word);
        }
        if (type == long.class) {
            return Long.valueOf(word);
        }
        return Integer.valueOf(word);
    }

    private static void helperIsThis(List<String> helper) throws IOException {
        List<String> here = Files.readAllLines(SOURCE).stream().map(String::trim).toList();
        int from = here.indexOf(helper.get(0));
        due.holds("the helper is here", from >= 0 && from + helper.size() <= here.size());
        for (int k = 0; k < helper.size(); k++) {
            due.holds("README.md's line " + helper.get(k), here.get(from + k).equals(helper.get(k)));
        }
    }

    /** The sky that is told line by line is the one that the calls ask of. */
    private static void textIsTold(String readme) {
        String open = "```text\nsky ";
        int from = readme.indexOf(open) + "```text\n".length();
        RainWishes other = new RainWishes();
        due.is("the sky line by line", tell(other, readme.substring(from, readme.indexOf("```", from))), 7);
        x.restore(0);
        for (int cells = 0; cells < 64; cells++) {
            due.is("weather " + cells, other.weather(cells), x.weather(cells));
            due.is("why " + cells, other.why(cells), x.why(cells));
            due.is("granted " + cells, other.granted(cells), x.granted(cells));
        }
    }

    private static void eachCallIsNamed(String readme) {
        Set<String> named = new HashSet<>();
        for (Pattern pattern : new Pattern[] {QUOTED, Pattern.compile("x\\.(\\w+)\\(")}) {
            Matcher m = pattern.matcher(readme);
            while (m.find()) {
                named.add(m.group(1));
            }
        }
        for (Method method : RainWishes.class.getDeclaredMethods()) {
            boolean open = java.lang.reflect.Modifier.isPublic(method.getModifiers());
            due.holds("README.md names " + method.getName(), !open || named.contains(method.getName()));
        }
    }
}

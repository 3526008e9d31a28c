import java.io.IOException;
import java.lang.reflect.Constructor;
import java.lang.reflect.Field;
import java.lang.reflect.Method;
import java.lang.reflect.Modifier;
import java.nio.file.Files;
import java.nio.file.Path;
import java.util.Arrays;
import java.util.HashSet;
import java.util.List;
import java.util.Set;
import java.util.TreeSet;
import java.util.regex.Matcher;
import java.util.regex.Pattern;
import java.util.stream.Collectors;

/** The face is the document's and nothing more, and the source keeps to what LANGUAGE.md leaves. */
public final class FaceTest {
    private static final Path SOURCE = Path.of("src/main/java/RainWishes.java");
    private static final Path DOCUMENT = Path.of("../shared/DOC.md");
    private static final Due due = new Due("FaceTest");

    public static void main(String[] args) throws IOException {
        face();
        members(RainWishes.class);
        inside();
        source(Files.readString(SOURCE));
        due.end();
    }

    private static String sign(String result, String name, String types, String thrown) {
        return result + " " + name + "(" + types + ") " + thrown;
    }

    /** Each line of the document's face against each public method of the class. */
    private static void face() throws IOException {
        Set<String> told = new TreeSet<>();
        Pattern line = Pattern.compile("    public (\\w+) (\\w+)\\(([^)]*)\\)(?: throws ([\\w, ]+))?;");
        Matcher m = line.matcher(Files.readString(DOCUMENT));
        while (m.find()) {
            String types = Arrays.stream(m.group(3).split(", ")).map(p -> p.split(" ")[0]).collect(Collectors.joining(","));
            Set<String> thrown = m.group(4) == null ? Set.of() : new TreeSet<>(List.of(m.group(4).split(", ")));
            told.add(sign(m.group(1), m.group(2), types, thrown.isEmpty() ? "[]" : thrown.toString()));
        }
        Set<String> there = new TreeSet<>();
        for (Method method : RainWishes.class.getDeclaredMethods()) {
            if (Modifier.isPublic(method.getModifiers())) {
                String types = Arrays.stream(method.getParameterTypes()).map(Class::getSimpleName)
                        .collect(Collectors.joining(","));
                Set<String> thrown = Arrays.stream(method.getExceptionTypes()).map(Class::getSimpleName)
                        .collect(Collectors.toCollection(TreeSet::new));
                there.add(sign(method.getReturnType().getSimpleName(), method.getName(), types, thrown.toString()));
            }
        }
        due.is("methods of the face", told.size(), 42);
        due.holds("the face: " + told + " but " + there, told.equals(there));
        due.holds("final", Modifier.isFinal(RainWishes.class.getModifiers()));
        Constructor<?>[] made = RainWishes.class.getDeclaredConstructors();
        due.is("one constructor", made.length, 1);
        due.holds("a public one without parameters",
                Modifier.isPublic(made[0].getModifiers()) && made[0].getParameterCount() == 0);
    }

    private static void members(Class<?> type) {
        for (Field field : type.getDeclaredFields()) {
            boolean open = field.getName().equals("NONE");
            due.holds(field + " is private", open || Modifier.isPrivate(field.getModifiers()));
        }
        for (Method method : type.getDeclaredMethods()) {
            int how = method.getModifiers();
            due.holds(method + " is public or private", Modifier.isPublic(how) || Modifier.isPrivate(how));
        }
    }

    private static void inside() {
        Set<String> face = new HashSet<>();
        for (Method method : RainWishes.class.getDeclaredMethods()) {
            if (Modifier.isPublic(method.getModifiers())) {
                due.holds(method + " stands alone", face.add(method.getName()));
            }
        }
        due.holds("twelve classes", RainWishes.class.getDeclaredClasses().length <= 11);
        for (Class<?> type : RainWishes.class.getDeclaredClasses()) {
            due.holds(type + " is static", Modifier.isStatic(type.getModifiers()));
            due.holds(type + " is not public", !Modifier.isPublic(type.getModifiers()));
            int fields = 0;
            for (Field field : type.getDeclaredFields()) {
                boolean still = Modifier.isStatic(field.getModifiers());
                due.holds(field + " is final", !still || Modifier.isFinal(field.getModifiers()));
                fields += still ? 0 : 1;
            }
            due.holds(type + " has few fields", fields <= 20);
            for (Method method : type.getDeclaredMethods()) {
                due.holds(method + " has a name of its own", !face.contains(method.getName()));
                due.holds(method + " takes seven at most", method.getParameterCount() <= 7);
            }
        }
    }

    private static void source(String text) {
        for (char c : text.toCharArray()) {
            if (c > 126 || c < 32 && c != '\n') {
                due.holds("plain signs only", false);
            }
        }
        String[] ruledOut = {
            "->", "::", "finally", "synchronized", "assert ", "Exact(", "MAX_VALUE", "MIN_VALUE", "System.out",
            "catch", "instanceof", "Object", "@", "import java.io", "String.format", "package ", "double", "float"
        };
        for (String word : ruledOut) {
            due.holds("without " + word, !text.contains(word));
        }
        String[] lines = text.split("\n");
        int begun = -1;
        for (int k = 0; k < lines.length; k++) {
            due.holds("line " + (k + 1) + " is not too long", lines[k].length() <= 120);
            if (lines[k].matches("(    |        )[\\w\\[\\]]+[^=;/*]*\\(.*\\{|(    |        )\\w.*\\)$")) {
                begun = k;
            } else if (begun >= 0 && lines[k].matches("(    |        )\\}")) {
                due.holds("the method at line " + (begun + 1) + " is short", k - begun <= 60);
                begun = -1;
            }
        }
    }
}

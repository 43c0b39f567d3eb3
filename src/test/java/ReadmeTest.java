import java.io.IOException;
import java.lang.reflect.Method;
import java.lang.reflect.Modifier;
import java.nio.file.Files;
import java.nio.file.Path;
import java.util.regex.Matcher;
import java.util.regex.Pattern;

/** README.md: its example answers as it says, its statements come, each call stands in it with all it takes. */
public final class ReadmeTest {
    private static final Pattern JAVA = Pattern.compile("(?s)```java\n(.*?)```");
    private static final Pattern NEW = Pattern.compile("GroutingIsFollowed wall = new GroutingIsFollowed\\(\\);");
    private static final Pattern LETTERS = Pattern.compile("for \\(char c : \"(.*)\"\\.toCharArray\\(\\)\\) wall\\.letter\\(c\\);");
    private static final Pattern CALL = Pattern.compile("wall\\.(\\w+)\\(([^)]*)\\);\\s*// (-?\\d+)(:.*)?");
    private static final Pattern STATEMENT = Pattern.compile("(?m)^\\| `(\\w+;)` \\|");
    private static final Pattern KIND = Pattern.compile("(?m)^\\| (\\d) \\| `(\\w)` \\|");
    private static int wrong = 0;

    private static void due(String call, long got, long want) {
        if (got == want) return;
        wrong++;
        System.out.println("README.md: " + call + " answered " + got + ", due is " + want);
    }

    private static void lacks(String what) {
        wrong++;
        System.out.println("README.md: " + what);
    }

    private static int tell(GroutingIsFollowed wall, String text) {
        for (char c : text.toCharArray()) wall.letter(c);
        return wall.wall();
    }

    private static long answer(GroutingIsFollowed wall, String name, String arguments) throws ReflectiveOperationException {
        String[] parts = arguments.isEmpty() ? new String[0] : arguments.split(", ");
        Object[] numbers = new Object[parts.length];
        Class<?>[] types = new Class<?>[parts.length];
        for (int i = 0; i < parts.length; i++) {
            numbers[i] = Integer.valueOf(parts[i]);
            types[i] = int.class;
        }
        return ((Number) GroutingIsFollowed.class.getMethod(name, types).invoke(wall, numbers)).longValue();
    }

    private static void example(String page) throws ReflectiveOperationException {
        Matcher block = JAVA.matcher(page);
        if (!block.find()) {
            lacks("no example stands in it");
            return;
        }
        GroutingIsFollowed wall = null;
        for (String line : block.group(1).split("\n")) {
            Matcher letters = LETTERS.matcher(line);
            Matcher call = CALL.matcher(line);
            if (NEW.matcher(line).matches()) wall = new GroutingIsFollowed();
            else if (wall != null && letters.matches()) for (char c : letters.group(1).toCharArray()) wall.letter(c);
            else if (wall != null && call.matches()) due(line, answer(wall, call.group(1), call.group(2)), Long.parseLong(call.group(3)));
            else lacks("no answer is told in the line " + line);
        }
    }

    private static void statements(String page) {
        GroutingIsFollowed wall = new GroutingIsFollowed();
        wall.comesIn(0, 0);
        int found = 0;
        for (Matcher m = STATEMENT.matcher(page); m.find(); found++) due("wall of " + m.group(1), tell(wall, m.group(1)), 1);
        due("statements", found, 6);
    }

    private static void kinds(String page) {
        GroutingIsFollowed wall = new GroutingIsFollowed();
        int found = 0;
        for (Matcher m = KIND.matcher(page); m.find(); found++) {
            tell(wall, "n00" + m.group(2) + "0;");
            due("kind " + m.group(2), wall.node(0, 0), Integer.parseInt(m.group(1)));
        }
        due("kinds", found, 6);
    }

    private static void calls(String page) {
        for (Method m : GroutingIsFollowed.class.getDeclaredMethods()) {
            if (!Modifier.isPublic(m.getModifiers())) continue;
            int commas = Math.max(0, m.getParameterCount() - 1);
            String names = m.getParameterCount() == 0 ? "" : "\\w+(, \\w+){" + commas + "}";
            if (!Pattern.compile("`" + m.getName() + "\\(" + names + "\\)`").matcher(page).find()) lacks(m.getName() + " is not told");
        }
    }

    private static void tests(String page) throws IOException {
        try (var files = Files.list(Path.of("src/test/java"))) {
            for (Path file : files.sorted().toList()) {
                String name = file.getFileName().toString().replace(".java", "");
                if (!page.contains("`" + name + "`")) lacks(name + " is not told");
            }
        }
    }

    public static void main(String[] args) throws IOException, ReflectiveOperationException {
        String page = Files.readString(Path.of("README.md"));
        example(page);
        statements(page);
        kinds(page);
        calls(page);
        tests(page);
        System.out.println(wrong == 0 ? "README.md: all is as it says" : wrong + " things of README.md are not so");
        if (wrong != 0) System.exit(1);
    }
}

import java.io.IOException;
import java.lang.reflect.Field;
import java.lang.reflect.Method;
import java.lang.reflect.Modifier;
import java.nio.file.Files;
import java.nio.file.Path;
import java.util.Set;
import java.util.TreeSet;
import java.util.regex.Matcher;
import java.util.regex.Pattern;

/** The public face, and the rules of LANGUAGE.md that can be read off the file. */
public final class FormTest {
    private static final String FACE = "int letter(int) int wall() int node(int,int) int person(int,int) "
        + "int lays(int,int,int) int wets(int,int) int comesIn(int,int) int heads(int,int) int stands(int,int) "
        + "int steps(int) int personThen(int,int,int) int wetThen(int,int) int comes(int,int) int visits(int,int) "
        + "int stops(int) int meets(int,int) int round(int) int way(int,int,int) int begin(int,int,int) "
        + "int head(int,int) int damp(int,int) int bestKind(int,int,int) int dry(int) int kinds(int) int near(int) "
        + "int two(int,int,int) long steam(int,int,int,int,int) long mean(int) int whatIs(int,int,int) int row(int) "
        + "int judge() int clear() int lots(int,int,int) int image() int on() int count(int)";
    private static final String FORBIDDEN = "\\b(throw|throws|try|catch|finally|synchronized|assert|import(?! java\\.util\\."
        + "Arrays;)|package|System\\.(?!arraycopy\\b)\\w+|Random|Thread|protected|native|volatile|hashCode|toString|"
        + "Object|Exact|lambda|goto|yield|var|instanceof|Double|Float|Character|Boolean)\\b|->|::";
    private static int wrong = 0;

    private static void fail(String what) {
        wrong++;
        System.out.println("form: " + what);
    }

    private static String form(Method m) {
        StringBuilder b = new StringBuilder(m.getReturnType().getSimpleName()).append(' ').append(m.getName()).append('(');
        for (Class<?> c : m.getParameterTypes()) b.append(b.charAt(b.length() - 1) == '(' ? "" : ",").append(c.getSimpleName());
        return b.append(')').toString();
    }

    private static void face() {
        Set<String> due = new TreeSet<>(Set.of(FACE.split("(?<=\\)) ")));
        Set<String> found = new TreeSet<>();
        Set<String> names = new TreeSet<>();
        for (Method m : GroutingIsFollowed.class.getDeclaredMethods()) {
            if (Modifier.isPublic(m.getModifiers())) {
                found.add(form(m));
                names.add(m.getName());
            }
        }
        if (!found.equals(due)) fail("the face is " + found);
        for (Class<?> c : GroutingIsFollowed.class.getDeclaredClasses()) {
            if (!Modifier.isStatic(c.getModifiers())) fail(c + " is not static");
            for (Method m : c.getDeclaredMethods()) if (names.contains(m.getName())) fail(m + " bears a public name");
        }
        for (Method m : GroutingIsFollowed.class.getDeclaredMethods()) {
            boolean isPublic = Modifier.isPublic(m.getModifiers());
            if (!isPublic && !Modifier.isPrivate(m.getModifiers())) fail(m + " is neither public nor private");
            if (!isPublic && names.contains(m.getName())) fail(m + " bears a public name");
            if (m.getParameterCount() > 7) fail(m + " takes more than seven");
        }
        for (Field f : GroutingIsFollowed.class.getDeclaredFields()) {
            if (!Modifier.isPrivate(f.getModifiers())) fail(f + " is not private");
            if (Modifier.isStatic(f.getModifiers()) && !Modifier.isFinal(f.getModifiers())) fail(f + " is static state");
        }
        int modifiers = GroutingIsFollowed.class.getModifiers();
        if (!Modifier.isPublic(modifiers) || !Modifier.isFinal(modifiers)) fail("the class is not public and final");
    }

    private static void text() throws IOException {
        String source = Files.readString(Path.of("src/main/java/GroutingIsFollowed.java"));
        String code = source.replaceAll("(?s)/\\*.*?\\*/", "").replaceAll("//[^\n]*", "");
        Matcher m = Pattern.compile(FORBIDDEN).matcher(code);
        while (m.find()) fail("'" + m.group() + "' stands in the file");
        if (!source.chars().allMatch(c -> c < 128)) fail("a sign above 127 stands in the file");
        if (Pattern.compile("\"\\s*\\+|\\+\\s*\"").matcher(code).find()) fail("texts are joined by +");
        int start = 0;
        String[] lines = source.split("\n");
        for (int i = 0; i < lines.length; i++) {
            if (lines[i].matches("( {4}| {8})[a-z].*\\) \\{") || lines[i].matches(".*\\bclass\\b.*")) start = i;
            if (lines[i].matches("( {4}| {8})\\}") && i - start > 60) fail("a method longer than 60 lines ends at line " + (i + 1));
        }
    }

    public static void main(String[] args) throws IOException {
        face();
        text();
        System.out.println(wrong == 0 ? "form: all is as due" : wrong + " faults of form");
        if (wrong != 0) System.exit(1);
    }
}

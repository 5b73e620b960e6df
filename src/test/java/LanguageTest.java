import java.io.IOException;
import java.lang.reflect.Field;
import java.lang.reflect.Method;
import java.lang.reflect.Modifier;
import java.nio.file.Files;
import java.nio.file.Path;
import java.util.ArrayList;
import java.util.HashSet;
import java.util.List;
import java.util.Set;
import java.util.regex.Pattern;

/** The rules of LANGUAGE.md that a look at the source, and at the classes, can tell. */
public final class LanguageTest {
    private static final Path SOURCE = Path.of("src/main/java/EarTrumpets.java");
    private static final String[] RULED_OUT = {
        "throw", "throws", "try", "catch", "finally", "synchronized", "assert", "import", "package", "->", "::",
        "Exception", "Error", "Thread", "Random", "System\\.(?!arraycopy)", "Object", "hashCode", "toString", "var",
    };

    public static void main(String[] args) throws IOException {
        String code = withoutComments(Files.readString(SOURCE));
        for (String word : RULED_OUT) {
            boolean sign = !Character.isLetter(word.charAt(0));
            String pattern = sign ? Pattern.quote(word) : "\\b" + word + (word.endsWith(")") ? "" : "\\b");
            Due.due("ruled out: " + word, Pattern.compile(pattern).matcher(code).find() ? 1 : 0, 0);
        }
        Due.due("signs are 1 to 126", Pattern.compile("[^\n -~]").matcher(code).find() ? 1 : 0, 0);
        methodsAreShort(code);
        classes();
        Due.end();
    }

    private static String withoutComments(String text) {
        return text.replaceAll("(?s)/\\*.*?\\*/", "").replaceAll("//[^\n]*", "");
    }

    /** Rule 11: some sixty lines. A method begins with a line that ends in ") {", but no statement's. */
    private static void methodsAreShort(String code) {
        String[] lines = code.split("\n");
        Pattern head = Pattern.compile("^( {4}| {8})(?!if|for|while|switch|return|else|do)[a-zA-Z].*\\) \\{$");
        for (int i = 0; i < lines.length; i++) {
            if (!head.matcher(lines[i]).matches()) {
                continue;
            }
            String indent = lines[i].replaceAll("\\S.*", "");
            int end = i + 1;
            while (end < lines.length && !lines[end].equals(indent + "}")) {
                end++;
            }
            Due.due("lines of " + lines[i].trim(), end - i <= 60 ? 1 : 0, 1);
        }
    }

    private static void classes() {
        List<Class<?>> all = new ArrayList<>();
        all.add(EarTrumpets.class);
        all.addAll(List.of(EarTrumpets.class.getDeclaredClasses()));
        Due.due("some twelve classes", all.size() <= 12 ? 1 : 0, 1);
        Set<String> face = new HashSet<>();
        for (Method m : EarTrumpets.class.getDeclaredMethods()) {
            if (Modifier.isPublic(m.getModifiers())) {
                face.add(m.getName());
            }
        }
        for (Class<?> one : all) {
            Due.due("no class within " + one, one == EarTrumpets.class ? 0 : one.getDeclaredClasses().length, 0);
            fields(one);
            methods(one, face);
        }
    }

    private static void fields(Class<?> one) {
        int fields = 0;
        for (Field f : one.getDeclaredFields()) {
            boolean isStatic = Modifier.isStatic(f.getModifiers());
            fields += isStatic ? 0 : 1;
            Due.due("static and final: " + f, !isStatic || Modifier.isFinal(f.getModifiers()) ? 1 : 0, 1);
        }
        Due.due("some twenty fields of " + one, fields <= 20 ? 1 : 0, 1);
    }

    private static void methods(Class<?> one, Set<String> face) {
        for (Method m : one.getDeclaredMethods()) {
            boolean hidden = one != EarTrumpets.class || !Modifier.isPublic(m.getModifiers());
            Due.due("seven parameters at most: " + m, m.getParameterCount() <= 7 ? 1 : 0, 1);
            Due.due("no name of the face: " + m, hidden && face.contains(m.getName()) ? 1 : 0, 0);
        }
    }
}

import java.io.IOException;
import java.lang.reflect.Field;
import java.lang.reflect.Method;
import java.lang.reflect.Modifier;
import java.nio.file.Files;
import java.nio.file.Path;
import java.util.ArrayList;
import java.util.HashSet;
import java.util.List;
import java.util.Set;
import java.util.regex.Matcher;
import java.util.regex.Pattern;

/** The rules of LANGUAGE.md that a look at the source, and at the classes, can tell. */
public final class LanguageTest {
    private static final Path SOURCE = Path.of("src/main/java/EarTrumpets.java");
    private static final String[] RULED_OUT = {
        "throw", "throws", "try", "catch", "finally", "synchronized", "assert", "import", "package", "->", "::",
        "Exception", "Error", "Thread", "Random", "System\\.(?!arraycopy)", "Object", "hashCode", "toString", "var",
    };

    public static void main(String[] args) throws IOException {
        String code = withoutComments(Files.readString(SOURCE));
        for (String word : RULED_OUT) {
            boolean sign = !Character.isLetter(word.charAt(0));
            String pattern = sign ? Pattern.quote(word) : "\\b" + word + (word.endsWith(")") ? "" : "\\b");
            Due.due("ruled out: " + word, Pattern.compile(pattern).matcher(code).find() ? 1 : 0, 0);
        }
        Due.due("signs are 1 to 126", Pattern.compile("[^\n -~]").matcher(code).find() ? 1 : 0, 0);
        library(code);
        made(code);
        methodsAreShort(code);
        classes();
        Due.end();
    }

    private static String withoutComments(String text) {
        return text.replaceAll("(?s)/\\*.*?\\*/", "").replaceAll("//[^\n]*", "");
    }

    /** Rule 4: of the library only what the class needs of what stands there. */
    private static void library(String code) {
        Set<String> known = new HashSet<>(List.of("System.arraycopy", "Integer.bitCount", "Math.min", "Math.max"));
        Set<String> own = new HashSet<>();
        for (Class<?> one : EarTrumpets.class.getDeclaredClasses()) {
            own.add(one.getSimpleName());
        }
        Matcher call = Pattern.compile("\\b([A-Z][a-z]\\w*)\\.(\\w+)\\(").matcher(code);
        while (call.find()) {
            String name = call.group(1) + "." + call.group(2);
            Due.due("library: " + name, own.contains(call.group(1)) || known.contains(name) ? 1 : 0, 1);
        }
    }

    /** All is made with the object: no call makes an object or an array, so that a run stays in its room. */
    private static void made(String code) {
        Pattern field = Pattern.compile("^ +(private )?final \\S+ \\w+ = new .*;$");
        Pattern written = Pattern.compile("^ +private static final int\\[\\] \\w+ = \\{.*\\};$");
        for (String line : code.split("\n")) {
            if (Pattern.compile("\\bnew\\b").matcher(line).find()) {
                Due.due("made with the object: " + line.trim(), field.matcher(line).matches() ? 1 : 0, 1);
            } else if (line.contains("= {")) {
                Due.due("made once: " + line.trim(), written.matcher(line).matches() ? 1 : 0, 1);
            }
        }
        Due.due("no copies", Pattern.compile("\\bclone\\b|\\bArrays\\b").matcher(code).find() ? 1 : 0, 0);
    }

    /** Rule 11: some sixty lines. A method begins with a line that ends in ") {", but no statement's. */
    private static void methodsAreShort(String code) {
        String[] lines = code.split("\n");
        Pattern head = Pattern.compile("^( {4}| {8})(?!if|for|while|switch|return|else|do)[a-zA-Z].*\\) \\{$");
        for (int i = 0; i < lines.length; i++) {
            if (!head.matcher(lines[i]).matches()) {
                continue;
            }
            String indent = lines[i].replaceAll("\\S.*", "");
            int end = i + 1;
            while (end < lines.length && !lines[end].equals(indent + "}")) {
                end++;
            }
            Due.due("lines of " + lines[i].trim(), end - i <= 60 ? 1 : 0, 1);
        }
    }

    private static void classes() {
        List<Class<?>> all = new ArrayList<>();
        all.add(EarTrumpets.class);
        all.addAll(List.of(EarTrumpets.class.getDeclaredClasses()));
        Due.due("some twelve classes", all.size() <= 12 ? 1 : 0, 1);
        Set<String> face = new HashSet<>();
        for (Method m : EarTrumpets.class.getDeclaredMethods()) {
            if (Modifier.isPublic(m.getModifiers())) {
                face.add(m.getName());
            }
        }
        for (Class<?> one : all) {
            Due.due("no class within " + one, one == EarTrumpets.class ? 0 : one.getDeclaredClasses().length, 0);
            fields(one);
            methods(one, face);
        }
    }

    private static void fields(Class<?> one) {
        int fields = 0;
        for (Field f : one.getDeclaredFields()) {
            boolean isStatic = Modifier.isStatic(f.getModifiers());
            fields += isStatic ? 0 : 1;
            Due.due("static and final: " + f, !isStatic || Modifier.isFinal(f.getModifiers()) ? 1 : 0, 1);
        }
        Due.due("some twenty fields of " + one, fields <= 20 ? 1 : 0, 1);
    }

    private static void methods(Class<?> one, Set<String> face) {
        for (Method m : one.getDeclaredMethods()) {
            boolean hidden = one != EarTrumpets.class || !Modifier.isPublic(m.getModifiers());
            Due.due("seven parameters at most: " + m, m.getParameterCount() <= 7 ? 1 : 0, 1);
            Due.due("no name of the face: " + m, hidden && face.contains(m.getName()) ? 1 : 0, 0);
        }
    }
}

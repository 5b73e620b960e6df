import java.io.IOException;
import java.lang.reflect.Method;
import java.lang.reflect.Modifier;
import java.nio.file.Files;
import java.nio.file.Path;
import java.util.HashMap;
import java.util.HashSet;
import java.util.Map;
import java.util.Set;
import java.util.regex.Matcher;
import java.util.regex.Pattern;

/** What README.md shows as an answer is what the class answers, and it shows every call. */
public final class ReadmeTest {
    private static final Pattern PART = Pattern.compile("(?s)```java\n(.*?)```");
    private static final Pattern TEXT = Pattern.compile("String text = \"(.*)\";");
    private static final Pattern CALL = Pattern.compile("x\\.(\\w+)\\((.*)\\);\\s*// (-?\\d+|[A-Z]+)\\b.*");
    private static final String FEEDS = "x.feed(text.charAt(i));";

    private static final Map<String, Method> FACE = face();
    private static final EarTrumpets OBJECT = new EarTrumpets();
    private static final Set<String> SHOWN = new HashSet<>();
    private static String text = "";
    private static int calls = 0;

    public static void main(String[] args) throws ReflectiveOperationException, IOException {
        Matcher part = PART.matcher(Files.readString(Path.of("README.md")));
        while (part.find()) {
            for (String line : part.group(1).split("\n")) {
                follow(line.trim());
            }
        }
        for (String name : FACE.keySet()) {
            Due.due(name + " is shown", SHOWN.contains(name) ? 1 : 0, 1);
        }
        Due.due("an object is used for at most 512 calls", calls <= 512 ? 1 : 0, 1);
        Due.end();
    }

    private static Map<String, Method> face() {
        Map<String, Method> all = new HashMap<>();
        for (Method m : EarTrumpets.class.getDeclaredMethods()) {
            if (Modifier.isPublic(m.getModifiers())) {
                all.put(m.getName(), m);
            }
        }
        return all;
    }

    private static void follow(String line) throws ReflectiveOperationException {
        Matcher told = TEXT.matcher(line);
        Matcher call = CALL.matcher(line);
        if (told.matches()) {
            text = told.group(1);
        } else if (line.equals(FEEDS)) {
            calls += text.length();
            Due.feed(OBJECT, text);
        } else if (call.matches()) {
            compare(line, call.group(1), call.group(2), call.group(3));
        } else {
            Due.due("a call without an answer: " + line, line.startsWith("x.") ? 1 : 0, 0);
        }
    }

    private static void compare(String line, String name, String arguments, String shown)
            throws ReflectiveOperationException {
        Method method = FACE.get(name);
        Due.due("a call of the face: " + line, method == null ? 0 : 1, 1);
        if (method != null) {
            calls++;
            SHOWN.add(name);
            Due.due(line, ((Number) method.invoke(OBJECT, numbers(arguments))).longValue(), number(shown));
        }
    }

    private static Object[] numbers(String arguments) {
        if (arguments.isEmpty()) {
            return new Object[0];
        }
        String[] texts = arguments.split(", ");
        Object[] all = new Object[texts.length];
        for (int i = 0; i < all.length; i++) {
            boolean sign = texts[i].startsWith("'");
            all[i] = sign ? (int) texts[i].charAt(1) : Integer.parseInt(texts[i]);
        }
        return all;
    }

    private static long number(String shown) throws ReflectiveOperationException {
        boolean named = Character.isLetter(shown.charAt(0));
        return named ? EarTrumpets.class.getField(shown).getInt(null) : Long.parseLong(shown);
    }
}

import java.lang.reflect.InvocationTargetException;
import java.lang.reflect.Method;
import java.util.HashMap;
import java.util.Map;

/** Runs of drawn calls, the same ones on an EarTrumpets and on a Model: all answers are alike. */
public final class ModelTest {
    private static final int RUNS = 1500, CALLS = 512;

    /** A call, how often it is drawn, and for each argument the least and the most that are as told. */
    private record Call(String name, int often, int... ends) {
    }

    private static final Call[] CALLS_DRAWN = {
        new Call("row", 6, 0, 7, 0, 2, 0, 40),
        new Call("set", 10, 0, 7, 0, 12, -1, 9),
        new Call("set", 3, 0, 7, 0, 40, Integer.MIN_VALUE, Integer.MAX_VALUE),
        new Call("copy", 8, 0, 7, 0, 12, 0, 7, 0, 12, 0, 12),
        new Call("drop", 1, 0, 7),
        new Call("feed", 1, 0, 255),
        new Call("house", 1),
        new Call("fault", 1),
        new Call("undo", 6),
        new Call("breathe", 12, 1, 4),
        new Call("breathe", 2, 1, 24),
        new Call("speak", 18, 0, 5, 0, 9, 1, 99),
        new Call("tap", 10, 0, 6, 0, 1),
        new Call("dent", 6, 0, 6, 0, 9),
        new Call("hush", 1),
        new Call("pipe", 10, 0, 6, 0, 5),
        new Call("inside", 10, 0, 6, 0, 3),
        new Call("horn", 10, 0, 5, 0, 4),
        new Call("ahead", 8, 0, 5, 1, 60, 0, 1),
        new Call("ahead", 8, 0, 5, 1, 8, 0, 1),
        new Call("first", 6, 0, 5),
        new Call("hearers", 6, 1, 60),
        new Call("quiet", 4),
        new Call("shuts", 6, 0, 5, 0, 63, 1, 30, 0, 1),
        new Call("shuts", 6, 0, 3, 0, 7, 1, 30, 0, 1),
        new Call("opens", 6, 0, 5, 0, 5, 1, 30, 0, 1),
        new Call("loud", 4, 0, 5, 0, 5, 1, 30),
        new Call("say", 6, 0, 5, 0, 5, 0, 9, 1, 30),
        new Call("round", 6, 0, 5),
        new Call("way", 6, 0, 5, 0, 5),
        new Call("who", 12, 0, 6, 0, 2, 0, 5, 0, 7, 0, 12, 1, 3),
        new Call("who", 4, 0, 6, 0, 2, 0, 5, 0, 7, 0, 40, 1, 12),
        new Call("spoke", 8, 0, 5, 0, 9, 0, 7, 0, 12, 1, 3),
        new Call("cold", 6, 1, 60),
        new Call("stuck", 4, 0, 5, 1, 30, 0, 10, 0, 1),
        new Call("drawn", 6, 0, 60, 1, 999999, 0, 1),
        new Call("image", 2, 0, 1),
        new Call("restore", 1, 0, 1),
        new Call("kind", 3, 0, 6),
        new Call("as", 6, 0, 6, 0, 5),
        new Call("ask", 6, 0, 6, 0, 1),
        new Call("trace", 6, 0, 16),
        new Call("count", 10, 0, 7),
        new Call("status", 10),
    };

    private static final Map<String, Method> OURS = methods(EarTrumpets.class);
    private static final Map<String, Method> THEIRS = methods(Model.class);

    /** A generator of its own, so that each run is the same on every machine. */
    private static long drawn = 20261118L;

    private static int draw(int below) {
        drawn = drawn * 6364136223846793005L + 1442695040888963407L;
        return (int) ((drawn >>> 33) % below);
    }

    private static long draw(long least, long most) {
        long span = most - least + 1;
        return least + (((long) draw(1 << 30) << 30 | draw(1 << 30)) % span);
    }

    private static Map<String, Method> methods(Class<?> type) {
        Map<String, Method> all = new HashMap<>();
        for (Method m : type.getDeclaredMethods()) {
            m.setAccessible(true);
            // Private helpers of the Model may bear a call's name with other arguments.
            boolean ints = true;
            for (Class<?> p : m.getParameterTypes()) {
                ints &= p == int.class;
            }
            if (ints && !java.lang.reflect.Modifier.isPrivate(m.getModifiers())) {
                all.put(m.getName(), m);
            }
        }
        return all;
    }

    public static void main(String[] args) throws IllegalAccessException, InvocationTargetException {
        for (int run = 0; run < RUNS; run++) {
            oneRun(run);
        }
        Due.end();
    }

    private static void oneRun(int run) throws IllegalAccessException, InvocationTargetException {
        EarTrumpets ours = new EarTrumpets();
        Model theirs = new Model();
        int left = CALLS;
        boolean early = draw(8) == 0;
        if (!early) {
            left -= tell(run, ours, theirs, text(false));
        }
        // A second house is told now and then on the way.
        while (left > 0) {
            if (left > 130 && draw(120) == 0) {
                left -= tell(run, ours, theirs, text(draw(3) == 0));
            }
            Call call = pick();
            both(run, ours, theirs, call.name(), arguments(call));
            left--;
        }
    }

    private static int tell(int run, EarTrumpets ours, Model theirs, String text)
            throws IllegalAccessException, InvocationTargetException {
        for (int i = 0; i < text.length(); i++) {
            both(run, ours, theirs, "feed", text.charAt(i));
        }
        both(run, ours, theirs, "house");
        both(run, ours, theirs, "fault");
        return text.length() + 2;
    }

    private static void both(int run, EarTrumpets ours, Model theirs, String name, Object... arguments)
            throws IllegalAccessException, InvocationTargetException {
        Object[] ints = new Object[arguments.length];
        for (int i = 0; i < ints.length; i++) {
            ints[i] = arguments[i] instanceof Character c ? (Object) (int) c : arguments[i];
        }
        long got = ((Number) OURS.get(name).invoke(ours, ints)).longValue();
        long want = ((Number) THEIRS.get(name).invoke(theirs, ints)).longValue();
        Due.due(got == want ? name : "run " + run + ": " + name + java.util.Arrays.toString(ints), got, want);
    }

    private static Call pick() {
        int all = 0;
        for (Call call : CALLS_DRAWN) {
            all += call.often();
        }
        int at = draw(all);
        int i = 0;
        while (at >= CALLS_DRAWN[i].often()) {
            at -= CALLS_DRAWN[i].often();
            i++;
        }
        return CALLS_DRAWN[i];
    }

    /** Mostly as told; now and then just outside, or far away. */
    private static Object[] arguments(Call call) {
        Object[] all = new Object[call.ends().length / 2];
        for (int i = 0; i < all.length; i++) {
            int least = call.ends()[2 * i];
            int most = call.ends()[2 * i + 1];
            int how = draw(60);
            all[i] = how == 0 ? least - 1 : how == 1 ? most + 1
                    : how == 2 && draw(3) == 0 ? (draw(2) == 0 ? Integer.MIN_VALUE : Integer.MAX_VALUE)
                    : how < 6 ? (draw(2) == 0 ? least : most)
                    : (int) draw((long) least, (long) most);
        }
        return all;
    }

    /** A text of a HOUSE, dense with pipes; if faulty, a byte of it is another, is gone, or comes more. */
    private static String text(boolean faulty) {
        int horns = 2 + draw(5);
        StringBuilder text = new StringBuilder();
        text.append('m').append(figures(horns)).append(',').append(figures(draw(3) == 0 ? 0 : draw(10))).append(';');
        int pipes = faulty && draw(2) == 0 ? 8 : 1 + Math.max(draw(7), draw(7));
        for (int p = 0; p < pipes; p++) {
            int from = draw(horns);
            int to = (from + 1 + draw(horns - 1)) % horns;
            int longest = draw(2) == 0 ? 2 : 4;
            text.append("bdnlo".charAt(draw(5))).append(figures(from)).append(',').append(figures(to)).append(',');
            text.append(figures(1 + draw(longest))).append(',').append(figures(draw(10))).append(';');
        }
        for (int i = 0; faulty && i < 1 + draw(2); i++) {
            int at = draw(text.length());
            char other = draw(10) == 0 ? (char) draw(256) : "0123456789,;bdnlomxyz".charAt(draw(21));
            switch (draw(3)) {
                case 0 -> text.setCharAt(at, other);
                case 1 -> text.deleteCharAt(at);
                default -> text.insert(at, other);
            }
        }
        return text.length() > 120 ? text.substring(0, 120) : text.toString();
    }

    private static String figures(int v) {
        return draw(12) == 0 ? "0" + v : String.valueOf(v);
    }
}

import java.util.Arrays;

/**
 * Every call of the class, with arguments that are as told and, for each of them, the least and the
 * most that are so and what is answered beyond: the document's bounds in one table.
 */
final class Calls {
    static final int ITEMS = 12, PART = 3;

    interface Made {
        long on(EarTrumpets x, int[] a);
    }

    record Argument(String name, int good, int least, int most, int below, int above) {
    }

    /** What a call answers while there is no HOUSE. */
    enum Houseless { ANSWERS, BAD, STATE, STATE_AHEAD_OF_BAD }

    record Call(String name, Houseless houseless, Made made, Argument... arguments) {
        int[] good() {
            return Arrays.stream(arguments).mapToInt(Argument::good).toArray();
        }

        int[] with(int argument, int value) {
            int[] all = good();
            all[argument] = value;
            return all;
        }

        String text(int[] a) {
            return name + Arrays.toString(a);
        }
    }

    private Calls() {
    }

    /** An argument beyond whose bounds the answer is BAD. */
    private static Argument told(String name, int good, int least, int most) {
        return new Argument(name, good, least, most, Due.BAD, Due.BAD);
    }

    private static Argument place(String name, int good, int most) {
        return new Argument(name, good, 0, most, Due.PLACE, Due.PLACE);
    }

    private static final Argument ROW = told("ROW", 0, 0, 7);
    private static final Argument WORD = told("WORD", 4, 0, 9);
    private static final Argument WHAT = told("what", 0, 0, 1);
    private static final Argument FAR = told("n", 5, 1, 60);
    private static final Argument NEAR = told("n", 5, 1, 30);
    private static final Argument TOLD = told("n", PART, 1, 12);
    private static final Argument IMAGE = told("IMAGE", 0, 0, 1);

    private static Argument horn(int horns) {
        return told("HORN", 0, 0, horns - 1);
    }

    private static Argument pipe(int pipes) {
        return told("PIPE", 0, 0, pipes - 1);
    }

    /** The text of a HOUSE of some HORNS and PIPES; PIPE 0 is one of brass, LENGTH 1. */
    static String text(int horns, int pipes) {
        StringBuilder text = new StringBuilder("m" + horns + ",1;");
        for (int p = 0; p < pipes; p++) {
            text.append("bdnlo".charAt(p % 5)).append(p % horns).append(',').append((p + 1) % horns);
            text.append(',').append(1 + p % 4).append(',').append(p).append(';');
        }
        return text.toString();
    }

    /**
     * An object that has ROWS 0 and 7 of ints, two IMAGES of a HOUSE of so many HORNS and PIPES and
     * an ACT to be undone; PIPE 0 has been asked its SIZE. ROWS 1 to 6 are missing.
     */
    static EarTrumpets ready(int horns, int pipes) {
        EarTrumpets x = Due.house(text(horns, pipes));
        x.row(0, 2, ITEMS);
        x.row(7, 2, ITEMS);
        x.image(0);
        x.image(1);
        x.speak(0, 4, 50);
        x.ask(0, 0);
        return x;
    }

    static Call[] of(int horns, int pipes) {
        return new Call[] {
            new Call("row", Houseless.ANSWERS, (x, a) -> x.row(a[0], a[1], a[2]), ROW, told("LANE", 2, 0, 2),
                    new Argument("n", 12, 0, 40, Due.SIZE, Due.BAD)),
            new Call("set", Houseless.ANSWERS, (x, a) -> x.set(a[0], a[1], a[2]), ROW, place("i", 0, ITEMS - 1),
                    told("v", 0, Integer.MIN_VALUE, Integer.MAX_VALUE)),
            new Call("copy", Houseless.ANSWERS, (x, a) -> x.copy(a[0], a[1], a[2], a[3], a[4]),
                    ROW, place("i", 0, ITEMS - PART), ROW, place("j", 0, ITEMS - PART), place("n", PART, ITEMS)),
            new Call("drop", Houseless.ANSWERS, (x, a) -> x.drop(a[0]), ROW),
            new Call("feed", Houseless.ANSWERS, (x, a) -> x.feed(a[0]), told("letter", 'm', 0, 255)),
            new Call("fault", Houseless.ANSWERS, (x, a) -> x.fault()),
            new Call("undo", Houseless.STATE, (x, a) -> x.undo()),
            new Call("breathe", Houseless.STATE_AHEAD_OF_BAD, (x, a) -> x.breathe(a[0]), told("n", 1, 1, 24)),
            new Call("speak", Houseless.BAD, (x, a) -> x.speak(a[0], a[1], a[2]), horn(horns), WORD,
                    told("LOUD", 50, 1, 99)),
            new Call("tap", Houseless.BAD, (x, a) -> x.tap(a[0], a[1]), pipe(pipes), told("on", 0, 0, 1)),
            new Call("dent", Houseless.BAD, (x, a) -> x.dent(a[0], a[1]), pipe(pipes), told("DENT", 5, 0, 9)),
            new Call("hush", Houseless.STATE, (x, a) -> x.hush()),
            new Call("pipe", Houseless.BAD, (x, a) -> x.pipe(a[0], a[1]), pipe(pipes), told("what", 0, 0, 5)),
            new Call("inside", Houseless.BAD, (x, a) -> x.inside(a[0], a[1]), pipe(pipes), told("place", 0, 0, 0)),
            new Call("horn", Houseless.BAD, (x, a) -> x.horn(a[0], a[1]), horn(horns), told("what", 0, 0, 4)),
            new Call("ahead", Houseless.BAD, (x, a) -> x.ahead(a[0], a[1], a[2]), horn(horns), FAR, WHAT),
            new Call("first", Houseless.BAD, (x, a) -> x.first(a[0]), horn(horns)),
            new Call("hearers", Houseless.STATE_AHEAD_OF_BAD, (x, a) -> x.hearers(a[0]), FAR),
            new Call("quiet", Houseless.STATE, (x, a) -> x.quiet()),
            new Call("shuts", Houseless.STATE_AHEAD_OF_BAD, (x, a) -> x.shuts(a[0], a[1], a[2], a[3]), horn(horns),
                    told("HORNS", 1, 0, (1 << horns) - 1), NEAR, WHAT),
            new Call("opens", Houseless.BAD, (x, a) -> x.opens(a[0], a[1], a[2], a[3]), horn(horns), horn(horns),
                    NEAR, WHAT),
            new Call("loud", Houseless.BAD, (x, a) -> x.loud(a[0], a[1], a[2]), horn(horns), horn(horns), NEAR),
            new Call("say", Houseless.BAD, (x, a) -> x.say(a[0], a[1], a[2], a[3]), horn(horns), horn(horns), WORD,
                    NEAR),
            new Call("round", Houseless.BAD, (x, a) -> x.round(a[0]), horn(horns)),
            new Call("way", Houseless.BAD, (x, a) -> x.way(a[0], a[1]), horn(horns), horn(horns)),
            new Call("who", Houseless.BAD, (x, a) -> x.who(a[0], a[1], a[2], a[3], a[4], a[5]), pipe(pipes),
                    told("which", 0, 0, 2), horn(horns), ROW, place("i", 0, ITEMS - PART), TOLD),
            new Call("spoke", Houseless.BAD, (x, a) -> x.spoke(a[0], a[1], a[2], a[3], a[4]), horn(horns), WORD, ROW,
                    place("i", 0, ITEMS - PART), TOLD),
            new Call("cold", Houseless.STATE_AHEAD_OF_BAD, (x, a) -> x.cold(a[0]), FAR),
            new Call("stuck", Houseless.BAD, (x, a) -> x.stuck(a[0], a[1], a[2], a[3]), horn(horns), NEAR,
                    told("p", 5, 0, 10), WHAT),
            new Call("drawn", Houseless.STATE_AHEAD_OF_BAD, (x, a) -> x.drawn(a[0], a[1], a[2]), told("n", 5, 0, 60),
                    told("SEED", 7, 1, 999999), WHAT),
            new Call("image", Houseless.STATE, (x, a) -> x.image(a[0]), IMAGE),
            new Call("restore", Houseless.STATE, (x, a) -> x.restore(a[0]), IMAGE),
            new Call("kind", Houseless.BAD, (x, a) -> x.kind(a[0]), pipe(pipes)),
            new Call("as", Houseless.BAD, (x, a) -> x.as(a[0], a[1]), pipe(pipes), told("KIND", 0, 0, 5)),
            new Call("ask", Houseless.BAD, (x, a) -> x.ask(a[0], a[1]), pipe(pipes), WHAT),
            new Call("trace", Houseless.ANSWERS, (x, a) -> x.trace(a[0]),
                    new Argument("i", 0, 0, 3, Due.NONE, Due.NONE)),
            new Call("count", Houseless.ANSWERS, (x, a) -> x.count(a[0]), told("what", 0, 0, 7)),
            new Call("status", Houseless.ANSWERS, (x, a) -> x.status()),
        };
    }

    /** Just below and just above what is as told, and as far away as an int can be. */
    static int[] beyond(Argument a) {
        if (a.least() == Integer.MIN_VALUE) {
            return new int[0];
        }
        return new int[] {a.least() - 1, Integer.MIN_VALUE, a.most() + 1, Integer.MAX_VALUE};
    }

    static int answerBeyond(Argument a, int value) {
        return value < a.least() ? a.below() : a.above();
    }
}

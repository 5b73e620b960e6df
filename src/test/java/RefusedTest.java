import java.util.function.Supplier;
import java.util.function.ToLongFunction;

/**
 * What is refused, or found, changes nothing but status(), and what is FORETOLD or asked changes
 * nothing at all. Two objects have the same calls behind them; one of them has the call in question
 * more; then all that can be seen, undone, read and restored of the two is alike.
 */
public final class RefusedTest {
    /** What HORN 1 HEARS in the next 12 BREATHS of rich(), so that a change of an ITEM shows. */
    private static final int[] HEARD = {-1, 0, -1, -1, -1, -1, -1, -1, -1, -1, -1, -1};

    public static void main(String[] args) {
        richIsRich();
        argumentsBeyond();
        state();
        full();
        findings();
        withoutHouse();
        faultyTexts();
        foretoldAndAsked();
        Due.end();
    }

    /** An object with something of all there is: FAULT, HOUSE, ROWS, ACTS, IMAGES, THE TRACE, bytes, a FINDING. */
    private static EarTrumpets rich() {
        EarTrumpets x = new EarTrumpets();
        Due.read(x, "m9,");
        Due.read(x, "m3,1;d0,1,2,3;n1,2,1,4;o2,0,1,5;");
        Due.lay(x, 0, HEARD);
        Due.lay(x, 7, HEARD);
        x.row(1, 0, 3);
        x.row(2, 1, 0);
        x.speak(0, 4, 50);
        x.breathe(1);
        x.tap(1, 0);
        x.dent(2, 8);
        x.image(0);
        x.breathe(1);
        x.image(1);
        x.hush();
        x.speak(0, 7, 60);
        x.ask(0, 0);
        Due.feed(x, "m2,0;b0,1,");
        x.set(0, 12, 1);
        return x;
    }

    /** As rich(), but no ACT can be undone, and IMAGE 1 was not kept. */
    private static EarTrumpets poor() {
        EarTrumpets x = Due.house("m3,1;d0,1,2,3;n1,2,1,4;o2,0,1,5;");
        x.speak(0, 4, 50);
        x.breathe(1);
        x.image(0);
        x.restore(0);
        Due.feed(x, "m2,0;b0,1,");
        return x;
    }

    private static EarTrumpets houseless() {
        EarTrumpets x = new EarTrumpets();
        Due.lay(x, 0, HEARD);
        Due.lay(x, 7, HEARD);
        x.row(1, 0, 3);
        Due.feed(x, "m2,0;b0,1,");
        return x;
    }

    /** The tape is full. */
    private static EarTrumpets fed() {
        EarTrumpets x = new EarTrumpets();
        Due.feed(x, "m2,0;" + "b00,01,01,00;".repeat(7) + "b".repeat(24));
        return x;
    }

    /** BREATH is as told, and a sound is on its way. */
    private static EarTrumpets late(int breath) {
        EarTrumpets x = Due.house("m3,1;d0,1,2,3;n1,2,1,4;o2,0,1,5;");
        for (int left = breath; left > 0; left -= 24) {
            x.breathe(Math.min(left, 24));
        }
        x.speak(0, 4, 50);
        return x;
    }

    /** All that the object answers from now on: what is seen, then what is undone, read and restored. */
    private static String all(EarTrumpets x) {
        StringBuilder all = new StringBuilder();
        for (int what = 0; what < 8; what++) {
            all.append(x.count(what)).append(' ');
        }
        all.append("| fault ").append(x.fault()).append(" | trace ");
        for (int i = 0; i < 7; i++) {
            all.append(x.trace(i)).append(' ');
        }
        all.append("| rows ").append(x.who(0, 1, 1, 0, 0, 12)).append(' ').append(x.spoke(1, 7, 7, 0, 12));
        house(all, x);
        for (int i = 0; i < 25 && x.count(6) > 0; i++) {
            all.append("\n undo ").append(x.undo());
            if (i < 8) {
                brief(all, x);
            }
        }
        Due.feed(x, "1,0;");
        all.append("\n read ").append(x.house()).append(' ').append(x.fault());
        brief(all, x);
        for (int k = 0; k < 2; k++) {
            all.append("\n restore ").append(x.restore(k));
            house(all, x);
        }
        all.append("\n lanes");
        for (int r = 0; r < 8; r++) {
            all.append(' ').append(x.set(r, 0, 123456));
        }
        all.append("\n drop");
        for (int r = 0; r < 8; r++) {
            all.append(' ').append(x.drop(r));
        }
        return all.toString();
    }

    private static void house(StringBuilder all, EarTrumpets x) {
        for (int p = 0; p < 3; p++) {
            all.append("\n pipe ").append(x.kind(p));
            for (int what = 0; what < 3; what++) {
                all.append(' ').append(x.pipe(p, what));
            }
        }
        for (int h = 0; h < 3; h++) {
            all.append("\n horn");
            for (int what = 0; what < 3; what++) {
                all.append(' ').append(x.horn(h, what));
            }
        }
        brief(all, x);
    }

    private static void brief(StringBuilder all, EarTrumpets x) {
        all.append("\n taps ").append(x.count(4)).append(" breath ").append(x.count(3)).append(" inside");
        for (int p = 0; p < 3; p++) {
            all.append(' ').append(x.inside(p, 0)).append(' ').append(x.inside(p, 1)).append(" dent ").append(x.pipe(p, 3));
        }
        all.append(" heard ").append(x.horn(1, 0)).append(' ').append(x.horn(1, 1)).append(' ').append(x.horn(1, 2));
    }

    /** The call answers as due, leaves status() as due, and changes nothing else. */
    private static void unchanged(String call, Supplier<EarTrumpets> made, ToLongFunction<EarTrumpets> done,
            long answer, int status) {
        EarTrumpets x = made.get();
        Due.due(call, done.applyAsLong(x), answer);
        Due.due("status behind " + call, x.status(), status);
        Due.same("all behind " + call, all(x), all(made.get()));
    }

    /** Refused: status() stays as it was. */
    private static void refused(String call, Supplier<EarTrumpets> made, ToLongFunction<EarTrumpets> done, long answer) {
        unchanged(call, made, done, answer, made.get().status());
    }

    private static void found(String call, ToLongFunction<EarTrumpets> done, int finding) {
        unchanged(call, RefusedTest::rich, done, finding, -1000010 - finding);
    }

    /** The probe sees something of each thing that could change. */
    private static void richIsRich() {
        EarTrumpets x = rich();
        int[] due = {4, 3, 3, 2, 5, 1, 7, 10};
        for (int what = 0; what < 8; what++) {
            Due.due("rich: count " + what, x.count(what), due[what]);
        }
        Due.due("rich: fault", x.fault(), 2);
        Due.due("rich: status", x.status(), 2);
        Due.due("rich: trace", x.trace(5), 20);
        Due.due("rich: row 0 fits", x.who(0, 1, 1, 0, 0, 12), 1 << 3);
        Due.due("rich: row 7 fits", x.spoke(1, 7, 7, 0, 12), 64 + 3);
        Due.due("rich: restore", x.restore(0) + x.restore(1), 2);
    }

    private static void argumentsBeyond() {
        for (Calls.Call call : Calls.of(3, 3)) {
            for (int i = 0; i < call.arguments().length; i++) {
                Calls.Argument a = call.arguments()[i];
                for (int value : Calls.beyond(a)) {
                    // PIPE 0 of rich() has a second place, that of the table has none.
                    int[] all = call.with(i, call.name().equals("inside") && value == 1 ? 2 : value);
                    int due = Calls.answerBeyond(a, value);
                    if (due == Due.BAD) {
                        refused(call.text(all), RefusedTest::rich, x -> call.made().on(x, all), due);
                    } else if (due != Due.NONE) {
                        found(call.text(all), x -> call.made().on(x, all), due);
                    }
                }
            }
        }
        refused("inside beyond a shorter pipe", RefusedTest::rich, x -> x.inside(1, 1), Due.BAD);
        refused("count(8)", RefusedTest::rich, x -> x.count(8), Due.BAD);
        unchanged("trace(-1)", RefusedTest::rich, x -> x.trace(-1), Due.NONE, 2);
        unchanged("trace(6)", RefusedTest::rich, x -> x.trace(6), Due.NONE, 2);
        unchanged("trace(16)", RefusedTest::rich, x -> x.trace(16), Due.NONE, 2);
    }

    private static void state() {
        refused("a tap that is open", RefusedTest::rich, x -> x.tap(0, 1), Due.STATE);
        refused("a tap that is shut", RefusedTest::rich, x -> x.tap(1, 0), Due.STATE);
        refused("no act", RefusedTest::poor, x -> x.undo(), Due.STATE);
        refused("no image", RefusedTest::poor, x -> x.restore(1), Due.STATE);
    }

    private static void full() {
        refused("a full tape", RefusedTest::fed, x -> x.feed('b'), Due.FULL);
        refused("a full tape", RefusedTest::fed, x -> x.feed(0), Due.FULL);
        refused("a full tape, BAD", RefusedTest::fed, x -> x.feed(256), Due.BAD);
        refused("1000", () -> late(999), x -> x.breathe(1), Due.FULL);
        refused("1023", () -> late(999), x -> x.breathe(24), Due.FULL);
        refused("1000", () -> late(998), x -> x.breathe(2), Due.FULL);
        refused("1000", () -> late(976), x -> x.breathe(24), Due.FULL);
        refused("BAD ahead of FULL", () -> late(999), x -> x.breathe(25), Due.BAD);
        refused("BAD ahead of FULL", () -> late(999), x -> x.breathe(0), Due.BAD);
        Due.due("999", late(975).breathe(24), 0);
        Due.due("999", late(998).breathe(1), 0);
    }

    private static void findings() {
        found("row", x -> x.row(0, 0, -1), Due.SIZE);
        found("row, of a missing one", x -> x.row(3, 2, -1), Due.SIZE);
        found("set", x -> x.set(3, 0, 1), Due.NULL);
        found("set", x -> x.set(1, 3, 1), Due.PLACE);
        found("set, of none", x -> x.set(2, 0, 1), Due.PLACE);
        found("copy", x -> x.copy(3, 0, 0, 0, 1), Due.NULL);
        found("copy", x -> x.copy(0, 0, 3, 0, 1), Due.NULL);
        found("copy", x -> x.copy(3, 0, 3, 0, 1), Due.NULL);
        found("copy", x -> x.copy(0, 0, 1, 0, 1), Due.STORE);
        found("copy", x -> x.copy(0, 0, 7, 1, 12), Due.PLACE);
        found("copy", x -> x.copy(0, 1, 7, 0, 12), Due.PLACE);
        found("copy", x -> x.copy(0, 0, 7, 0, 13), Due.PLACE);
        found("copy none, beyond the end", x -> x.copy(0, 13, 7, 0, 0), Due.PLACE);
        found("copy none, beyond the end", x -> x.copy(0, 0, 7, 13, 0), Due.PLACE);
        found("drop", x -> x.drop(3), Due.NULL);
        found("who", x -> x.who(0, 0, 0, 3, 0, 1), Due.NULL);
        found("who", x -> x.who(0, 0, 0, 0, 1, 12), Due.PLACE);
        found("who, of none", x -> x.who(0, 0, 0, 2, 0, 1), Due.PLACE);
        found("spoke", x -> x.spoke(0, 0, 3, 0, 1), Due.NULL);
        found("spoke", x -> x.spoke(0, 0, 0, 12, 1), Due.PLACE);
        found("as", x -> x.as(0, 3), Due.KIND);
        found("as", x -> x.as(2, 1), Due.KIND);
    }

    private static void withoutHouse() {
        for (Calls.Call call : Calls.of(3, 3)) {
            int[] good = call.good();
            if (call.houseless() != Calls.Houseless.ANSWERS) {
                int due = call.houseless() == Calls.Houseless.BAD ? Due.BAD : Due.STATE;
                refused("no house: " + call.name(), RefusedTest::houseless, x -> call.made().on(x, good), due);
            }
            for (int i = 0; i < call.arguments().length; i++) {
                Calls.Argument a = call.arguments()[i];
                for (int value : Calls.beyond(a)) {
                    boolean ahead = call.houseless() == Calls.Houseless.STATE_AHEAD_OF_BAD;
                    int[] all = call.with(i, value);
                    if (ahead || Calls.answerBeyond(a, value) == Due.BAD) {
                        refused("no house: " + call.text(all), RefusedTest::houseless, x -> call.made().on(x, all),
                                ahead ? Due.STATE : Due.BAD);
                    }
                }
            }
        }
    }

    /** Behind a FAULT all stays but the tape, empty then, and fault(). */
    private static void faultyTexts() {
        String[] texts = {"", "m", "m2,0;", "m3,1;d0,1,2,3;n1,2,1,4;o2,0,1", "m3,1;d0,1,2,3;n1,2,1,4;o2,2,1,5;", "\u0000",
            "m6,9;" + "o5,4,4,9;".repeat(8), "m6,9;o5,4,4,9;x"};
        int[] places = {0, 1, 5, 29, 26, 0, 68, 14};
        int[] faults = {1, 1, 1, 1, 2, 1, 3, 1};
        for (int i = 0; i < texts.length; i++) {
            EarTrumpets x = emptyTape();
            Due.due("a faulty text, " + i, Due.read(x, texts[i]), -1000100 - places[i]);
            Due.due("its fault", x.fault(), faults[i]);
            Due.due("status stays", x.status(), 2);
            Due.due("the tape is empty", x.count(7), 0);
            Due.same("all behind a faulty text", withoutFault(x), withoutFault(emptyTape()));
        }
    }

    private static EarTrumpets emptyTape() {
        EarTrumpets x = rich();
        x.house();
        return x;
    }

    private static String withoutFault(EarTrumpets x) {
        String told = "| fault " + x.fault();
        return all(x).replace(told, "").replaceAll("read (\\S+) \\d", "read $1");
    }

    /** These change nothing; who(), spoke() and as() that have no FINDING make status() 0. */
    private static void foretoldAndAsked() {
        String quiet = " fault pipe inside horn ahead first hearers quiet shuts opens loud say round way cold stuck"
                + " drawn kind trace count status who spoke as ";
        for (Calls.Call call : Calls.of(3, 3)) {
            if (!quiet.contains(" " + call.name() + " ")) {
                continue;
            }
            boolean findings = " who spoke as ".contains(" " + call.name() + " ");
            for (int i = -1; i < call.arguments().length; i++) {
                int[] least = i < 0 ? call.good() : call.with(i, call.arguments()[i].least());
                int[] most = i < 0 ? call.good() : call.with(i, call.arguments()[i].most());
                foretold(call, least, findings);
                foretold(call, most, findings);
            }
        }
    }

    private static void foretold(Calls.Call call, int[] arguments, boolean findings) {
        EarTrumpets x = rich();
        long answer = call.made().on(x, arguments);
        int status = !findings ? 2 : answer == Due.KIND ? 3 : 0;
        unchanged(call.text(arguments), RefusedTest::rich, y -> call.made().on(y, arguments), answer, status);
    }
}

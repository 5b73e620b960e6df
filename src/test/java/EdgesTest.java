/**
 * The bounds of every argument of every call, in a HOUSE of each size and without one: what is just
 * within is not BAD, what is just beyond (or far away) is refused as told, and of several refusals
 * the one that the document puts first is answered.
 */
public final class EdgesTest {
    public static void main(String[] args) {
        for (int horns = 2; horns <= 6; horns++) {
            for (int pipes = 1; pipes <= 7; pipes++) {
                within(horns, pipes);
                beyond(horns, pipes);
            }
        }
        twoBeyond();
        missingRows();
        twoLanes();
        houseless();
        Due.end();
    }

    /** Neither the least nor the most of what is told is refused, but by the tap that is so. */
    private static void within(int horns, int pipes) {
        for (Calls.Call call : Calls.of(horns, pipes)) {
            for (int i = 0; i < call.arguments().length; i++) {
                Calls.Argument a = call.arguments()[i];
                for (int value : new int[] {a.least(), a.most()}) {
                    int[] all = call.with(i, value);
                    boolean isSo = call.name().equals("tap") && all[1] == 1;
                    boolean isNoSuchKind = call.name().equals("as") && all[1] == 5;
                    long got = call.made().on(Calls.ready(horns, pipes), all);
                    long due = isSo ? Due.STATE : isNoSuchKind ? Due.KIND : refusal(got) ? 0 : got;
                    // An ITEM may be any number, those of the refusals among them.
                    Due.due(call.text(all) + " of " + horns + " horns, " + pipes + " pipes", got,
                            call.name().equals("set") && i == 2 ? value : due);
                }
            }
        }
    }

    private static boolean refusal(long answer) {
        return answer == Due.BAD || answer == Due.STATE || answer == Due.FULL
                || answer <= Due.NULL && answer >= Due.STORE;
    }

    private static void beyond(int horns, int pipes) {
        for (Calls.Call call : Calls.of(horns, pipes)) {
            for (int i = 0; i < call.arguments().length; i++) {
                Calls.Argument a = call.arguments()[i];
                for (int value : Calls.beyond(a)) {
                    int[] all = call.with(i, value);
                    Due.due(call.text(all) + " of " + horns + " horns, " + pipes + " pipes, " + a.name(),
                            call.made().on(Calls.ready(horns, pipes), all), Calls.answerBeyond(a, value));
                }
            }
        }
    }

    /** Of two arguments beyond their bounds one that is BAD goes ahead of a FINDING. */
    private static void twoBeyond() {
        for (Calls.Call call : Calls.of(3, 3)) {
            for (int i = 0; i < call.arguments().length; i++) {
                for (int j = i + 1; j < call.arguments().length; j++) {
                    Calls.Argument a = call.arguments()[i];
                    Calls.Argument b = call.arguments()[j];
                    for (int v : Calls.beyond(a)) {
                        for (int w : Calls.beyond(b)) {
                            int[] all = call.with(i, v);
                            all[j] = w;
                            int one = Calls.answerBeyond(a, v);
                            Due.due(call.text(all), call.made().on(Calls.ready(3, 3), all),
                                    one == Due.BAD ? one : Calls.answerBeyond(b, w));
                        }
                    }
                }
            }
        }
    }

    /** A ROW that is missing is found behind all that is BAD, and ahead of PLACE and STORE. */
    private static void missingRows() {
        for (Calls.Call call : Calls.of(3, 3)) {
            for (int r = 0; r < call.arguments().length; r++) {
                if (!call.arguments()[r].name().equals("ROW") || call.name().equals("row")) {
                    continue;
                }
                for (int missing : new int[] {1, 6}) {
                    int[] all = call.with(r, missing);
                    Due.due(call.text(all), call.made().on(Calls.ready(3, 3), all), Due.NULL);
                    missingAndBeyond(call, r, missing);
                }
            }
        }
    }

    private static void missingAndBeyond(Calls.Call call, int r, int missing) {
        for (int i = 0; i < call.arguments().length; i++) {
            Calls.Argument a = call.arguments()[i];
            for (int value : Calls.beyond(a)) {
                int[] all = call.with(i, value);
                if (i != r) {
                    all[r] = missing;
                    boolean bad = Calls.answerBeyond(a, value) == Due.BAD;
                    Due.due(call.text(all), call.made().on(Calls.ready(3, 3), all), bad ? Due.BAD : Due.NULL);
                }
            }
        }
    }

    /** ROWS of two LANES are found behind NULL, and ahead of PLACE, even if no ITEM is to come. */
    private static void twoLanes() {
        for (int lane = 0; lane < 3; lane++) {
            for (int other = 0; other < 3; other++) {
                EarTrumpets x = new EarTrumpets();
                x.row(0, lane, 5);
                x.row(1, other, 5);
                Due.due("lanes " + lane + ", " + other, x.copy(0, 0, 1, 0, 5), lane == other ? 5 : Due.STORE);
                Due.due("none, lanes " + lane + ", " + other, x.copy(0, 0, 1, 0, 0), lane == other ? 0 : Due.STORE);
                int place = lane == other ? Due.PLACE : Due.STORE;
                Due.due("i", x.copy(0, -1, 1, 0, 1), place);
                Due.due("j", x.copy(0, 0, 1, -1, 1), place);
                Due.due("n", x.copy(0, 0, 1, 0, -1), place);
                Due.due("end of a", x.copy(0, 1, 1, 0, 5), place);
                Due.due("end of b", x.copy(0, 0, 1, 1, 5), place);
                Due.due("a missing", x.copy(2, -1, 1, 0, 1), Due.NULL);
                Due.due("b missing", x.copy(0, -1, 2, 0, 1), Due.NULL);
            }
        }
    }

    private static void houseless() {
        for (Calls.Call call : Calls.of(3, 3)) {
            long got = call.made().on(rowsAlone(), call.good());
            Due.due("no house: " + call.name(), got, houselessAnswer(call, got));
            for (int i = 0; i < call.arguments().length; i++) {
                Calls.Argument a = call.arguments()[i];
                for (int value : Calls.beyond(a)) {
                    int[] all = call.with(i, value);
                    Due.due("no house: " + call.text(all), call.made().on(rowsAlone(), all), houselessBeyond(call, a, value));
                }
            }
        }
    }

    private static EarTrumpets rowsAlone() {
        EarTrumpets x = new EarTrumpets();
        x.row(0, 2, Calls.ITEMS);
        x.row(7, 2, Calls.ITEMS);
        return x;
    }

    private static long houselessAnswer(Calls.Call call, long got) {
        switch (call.houseless()) {
            case BAD:
                return Due.BAD;
            case ANSWERS:
                return refusal(got) ? 0 : got;
            default:
                return Due.STATE;
        }
    }

    private static long houselessBeyond(Calls.Call call, Calls.Argument a, int value) {
        switch (call.houseless()) {
            case STATE_AHEAD_OF_BAD:
                return Due.STATE;
            case ANSWERS:
                return Calls.answerBeyond(a, value);
            default:
                return Due.BAD;
        }
    }
}

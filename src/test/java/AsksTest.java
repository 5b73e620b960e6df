/** Promises 33 to 39, and 40 for as(): images, KINDS, ASKS, THE TRACE and counts. */
public final class AsksTest {
    private static final String ALL = "m3,1;b0,1,1,4;d1,2,2,3;n2,0,3,2;l0,2,4,1;o2,1,1,5;";

    public static void main(String[] args) {
        images();
        imagesRefused();
        kind();
        as();
        asks();
        askRefused();
        count();
        Due.end();
    }

    private static void images() {
        EarTrumpets x = Due.house("m3,0;d0,1,2,3;b1,2,1,0;");
        x.speak(0, 4, 50);
        x.tap(1, 0);
        x.dent(0, 7);
        x.breathe(2);
        x.speak(0, 6, 9);
        String then = Due.look(x);
        Due.due("image", x.image(0), 1);
        Due.same("nothing changes by it", Due.look(x), then);
        x.hush();
        x.tap(1, 1);
        x.breathe(3);
        String later = Due.look(x);
        Due.due("image", x.image(1), 1);
        Due.due("another house", Due.read(x, "m2,5;l1,0,1,0;"), 1);
        x.row(3, 2, 5);
        x.feed('m');
        Due.due("restore", x.restore(0), 1);
        Due.due("no act can be undone", x.undo(), Due.STATE);
        Due.due("rows stay", x.drop(3), 5);
        Due.due("the tape stays", x.count(7), 1);
        x.house();
        Due.same("as it was", Due.look(x), then);
        x.breathe(2);
        Due.due("restore", x.restore(1), 1);
        Due.due("no act can be undone", x.count(6), 0);
        Due.same("as it was later", Due.look(x), later);
        Due.due("restore twice", x.restore(0), 1);
        Due.due("breath", x.count(3), 2);
        x.breathe(1);
        x.image(0);
        x.breathe(1);
        x.restore(0);
        Due.due("an image in place of one", x.count(3), 3);
    }

    private static void imagesRefused() {
        EarTrumpets x = new EarTrumpets();
        Due.due("no house", x.image(0), Due.STATE);
        Due.due("BAD ahead of STATE", x.image(2), Due.BAD);
        Due.due("none kept", x.restore(0), Due.STATE);
        Due.due("BAD ahead of STATE", x.restore(2), Due.BAD);
        Due.read(x, ALL);
        Due.due("image -1", x.image(-1), Due.BAD);
        Due.due("image 2", x.image(2), Due.BAD);
        Due.due("restore -1", x.restore(-1), Due.BAD);
        x.image(1);
        Due.due("the other one", x.restore(0), Due.STATE);
        x.breathe(1);
        Due.due("none kept", x.restore(0), Due.STATE);
        Due.due("acts stay then", x.count(6), 1);
    }

    private static void kind() {
        EarTrumpets x = Due.house(ALL);
        for (int p = 0; p < 5; p++) {
            Due.due("kind", x.kind(p), p + 1);
        }
        Due.due("pipe 5", x.kind(5), Due.BAD);
        Due.due("pipe -1", x.kind(-1), Due.BAD);
        Due.due("no house", new EarTrumpets().kind(0), Due.BAD);
    }

    private static void as() {
        EarTrumpets x = Due.house(ALL);
        // For each PIPE (brass, dented, narrow, leaky, old) the KINDS that it is, as bits.
        int[] is = {3, 7, 11, 17, 49};
        for (int p = 0; p < 5; p++) {
            for (int k = 0; k < 6; k++) {
                boolean so = (is[p] >> k & 1) == 1;
                Due.due("pipe " + p + " as " + k, x.as(p, k), so ? p : Due.KIND);
                Due.due("status", x.status(), so ? 0 : 3);
            }
        }
        Due.due("kind 6", x.as(0, 6), Due.BAD);
        Due.due("kind -1", x.as(0, -1), Due.BAD);
        Due.due("pipe 5", x.as(5, 0), Due.BAD);
        Due.due("pipe -1", x.as(-1, 0), Due.BAD);
        Due.due("BAD leaves the status", x.status(), 0);
        Due.due("no house", new EarTrumpets().as(0, 0), Due.BAD);
    }

    private static void ask(EarTrumpets x, int one, int what, int answer, int... trace) {
        Due.due("ask " + one + ", " + what, x.ask(one, what), answer);
        for (int i = 0; i < trace.length; i++) {
            Due.due("trace of " + one + ", " + what, x.trace(i), trace[i]);
        }
        for (int i = trace.length; i < 18; i++) {
            Due.due("end of trace", x.trace(i), Due.NONE);
        }
    }

    private static void asks() {
        EarTrumpets x = Due.house(ALL);
        ask(x, 0, 0, 1 + (0 + 4), 11, 10, 21, 20);
        ask(x, 0, 1, 0 + 4, 21, 20);
        ask(x, 1, 0, 0 - (2 + 2 * (1 + 3)), 12, 11, 10, 24, 21, 20);
        ask(x, 1, 1, 2 * (1 + 3), 24, 21, 20);
        ask(x, 2, 0, 3 + (2 + 2 - 1000), 11, 10, 22, 21, 20);
        ask(x, 2, 1, 2 + 2 - 1000, 22, 21, 20);
        ask(x, 3, 0, 4 - 100, 13, 10);
        ask(x, 3, 1, 3 - (4 - 100), 23, 20, 13, 10);
        ask(x, 4, 0, 2 * (1 - 100), 14, 13, 10);
        ask(x, 4, 1, 4 - 2 * (1 - 100), 23, 20, 14, 13, 10);
        x.dent(1, 9);
        ask(x, 1, 1, 2 * (1 + 9), 24, 21, 20);
    }

    private static void askRefused() {
        EarTrumpets x = Due.house(ALL);
        x.ask(3, 0);
        Due.due("pipe 5", x.ask(5, 0), Due.BAD);
        Due.due("pipe -1", x.ask(-1, 0), Due.BAD);
        Due.due("what 2", x.ask(0, 2), Due.BAD);
        Due.due("what -1", x.ask(0, -1), Due.BAD);
        Due.due("the trace stays", x.trace(1), 10);
        Due.due("trace -1", x.trace(-1), Due.NONE);
        Due.due("trace far away", x.trace(Integer.MIN_VALUE), Due.NONE);
        Due.due("trace far away", x.trace(Integer.MAX_VALUE), Due.NONE);
        Due.due("no house", new EarTrumpets().ask(0, 0), Due.BAD);
    }

    private static void count() {
        EarTrumpets x = Due.house(ALL);
        x.row(0, 0, 0);
        x.row(7, 2, 9);
        x.speak(0, 1, 50);
        x.breathe(1);
        x.tap(4, 0);
        x.feed('m');
        x.feed('2');
        int[] due = {2, 3, 5, 1, 15, 2, 3, 2};
        for (int what = 0; what < 8; what++) {
            Due.due("count " + what, x.count(what), due[what]);
        }
        Due.due("count 8", x.count(8), Due.BAD);
        Due.due("count -1", x.count(-1), Due.BAD);
    }
}

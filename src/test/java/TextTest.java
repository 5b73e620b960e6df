/** Promises 6 to 8: the tape, the texts of a HOUSE and their FAULTS. */
public final class TextTest {
    private static final String PIPE = "b0,1,1,0;";

    public static void main(String[] args) {
        feed();
        houses();
        faultsOfLaw();
        faultsOfPipe();
        tooManyPipes();
        faultStays();
        newHouseStandsInPlace();
        shorterBehindLonger();
        Due.end();
    }

    private static void feed() {
        EarTrumpets x = new EarTrumpets();
        Due.due("feed -1", x.feed(-1), Due.BAD);
        Due.due("feed 256", x.feed(256), Due.BAD);
        for (int i = 1; i <= 120; i++) {
            Due.due("feed", x.feed(i == 60 ? 0 : 255), i);
        }
        Due.due("feed 121", x.feed(0), Due.FULL);
        Due.due("BAD ahead of FULL", x.feed(256), Due.BAD);
        Due.due("bytes", x.count(7), 120);
        Due.due("house", x.house(), -1000100);
        Due.due("the tape is empty then", x.count(7), 0);
        Due.due("feed anew", x.feed('m'), 1);
    }

    private static void houses() {
        good("m2,0;b0,1,1,0;", 1);
        good("m6,9;o5,4,4,9;", 1);
        good("m02,00;b00,01,04,09;", 1);
        good("m3,1;b0,1,1,0;d1,2,2,1;n2,0,3,2;l0,2,4,3;o2,1,1,4;b1,0,2,5;d0,1,3,6;", 7);
        EarTrumpets x = Due.house("m3,1;b0,1,1,0;d1,2,2,1;n2,0,3,2;l0,2,4,3;o2,1,1,4;");
        int[] from = {0, 1, 2, 0, 2};
        int[] to = {1, 2, 0, 2, 1};
        int[] length = {1, 2, 3, 4, 1};
        for (int p = 0; p < 5; p++) {
            Due.due("kind", x.kind(p), p + 1);
            Due.due("from", x.pipe(p, 0), from[p]);
            Due.due("to", x.pipe(p, 1), to[p]);
            Due.due("length", x.pipe(p, 2), length[p]);
            Due.due("dent", x.pipe(p, 3), p);
            Due.due("open", x.pipe(p, 4), 1);
        }
    }

    private static void good(String text, int pipes) {
        EarTrumpets x = new EarTrumpets();
        Due.due("house of " + text, Due.read(x, text), pipes);
        Due.due("no fault in " + text, x.fault(), 0);
        Due.due("pipes of " + text, x.count(2), pipes);
        Due.due("taps of " + text, x.count(4), (1 << pipes) - 1);
    }

    private static void faulty(String text, int place, int fault) {
        EarTrumpets x = new EarTrumpets();
        Due.due("house of " + text, Due.read(x, text), -1000100 - place);
        Due.due("fault of " + text, x.fault(), fault);
        Due.due("no house by " + text, x.count(1), 0);
        Due.due("tape behind " + text, x.count(7), 0);
    }

    private static void faultsOfLaw() {
        faulty("", 0, 1);
        faulty("b", 0, 1);
        faulty("M2,0;" + PIPE, 0, 1);
        faulty("mm", 1, 1);
        faulty("m", 1, 1);
        faulty("m1,0;" + PIPE, 1, 2);
        faulty("m7,0;" + PIPE, 1, 2);
        faulty("m00,0;" + PIPE, 1, 2);
        faulty("m99,x", 1, 2);
        faulty("m002,0;" + PIPE, 1, 1);
        faulty("m2", 2, 1);
        faulty("m2;", 2, 1);
        faulty("m2,", 3, 1);
        faulty("m2,,", 3, 1);
        faulty("m2,10;" + PIPE, 3, 2);
        faulty("m2,000;" + PIPE, 3, 1);
        faulty("m2,9999999999999;", 3, 1);
        faulty("m2,0", 4, 1);
        faulty("m2,0,", 4, 1);
        faulty("m2,0 ;" + PIPE, 4, 1);
        faulty("m2,0;", 5, 1);
        faulty("m 2,0;" + PIPE, 1, 1);
    }

    private static void faultsOfPipe() {
        faulty("m2,0;q0,1,1,0;", 5, 1);
        faulty("m2,0;m0,1,1,0;", 5, 1);
        faulty("m2,0;1", 5, 1);
        faulty("m2,0;b", 6, 1);
        faulty("m2,0;b2,1,1,0;", 6, 2);
        faulty("m2,0;b-1,1,1,0;", 6, 1);
        faulty("m2,0;b000,1,1,0;", 6, 1);
        faulty("m2,0;b0", 7, 1);
        faulty("m2,0;b0,", 8, 1);
        faulty("m2,0;b0,0,1,0;", 8, 2);
        faulty("m2,0;b1,01,1,0;", 8, 2);
        faulty("m2,0;b0,2,1,0;", 8, 2);
        faulty("m2,0;b0,1", 9, 1);
        faulty("m2,0;b0,1;", 9, 1);
        faulty("m2,0;b0,1,0,0;", 10, 2);
        faulty("m2,0;b0,1,5,0;", 10, 2);
        faulty("m2,0;b0,1,1;", 11, 1);
        faulty("m2,0;b0,1,1,10;", 12, 2);
        faulty("m2,0;b0,1,1,x;", 12, 1);
        faulty("m2,0;b0,1,1,0", 13, 1);
        faulty("m2,0;b0,1,1,0,", 13, 1);
        faulty("m2,0;b0,1,1,0;;", 14, 1);
        faulty("m2,0;b0,1,1,0;b", 15, 1);
        faulty("m2,0;b0,1,1,0;bb", 15, 1);
        faulty("m2,0;b0,1,1,0;\n", 14, 1);
        faulty("m2,0;b0,1,1,0;\u00e9", 14, 1);
    }

    private static void tooManyPipes() {
        String seven = "m2,0;" + PIPE.repeat(7);
        good(seven, 7);
        faulty(seven + "b", 68, 3);
        faulty(seven + PIPE, 68, 3);
        faulty(seven + "o9,9", 68, 3);
        faulty(seven + "q", 68, 1);
        faulty(seven + "7", 68, 1);
        faulty("m2,0;" + "b00,01,01,00;".repeat(7) + "b00,01,01,00;b00,01,01", 96, 3);
        faulty("m2,0;" + "b00,01,01,00;".repeat(7) + "b".repeat(24), 96, 3);
    }

    private static void faultStays() {
        EarTrumpets x = new EarTrumpets();
        Due.read(x, "m7,0;");
        Due.read(x, "m2,0;" + PIPE);
        Due.due("the latest fault behind a good text", x.fault(), 2);
        String before = Due.look(x);
        Due.due("a faulty text", Due.read(x, "m3,0;b0,1,1,0;b0,1,9,0;"), -1000100 - 19);
        Due.same("all that stays", Due.look(x), before);
        Due.due("fault", x.fault(), 2);
        Due.read(x, "m3,0;b");
        Due.due("the latest fault", x.fault(), 1);
        Due.same("all that stays", Due.look(x), before);
    }

    private static void newHouseStandsInPlace() {
        EarTrumpets x = Due.house("m3,0;" + PIPE + "b1,2,2,0;");
        x.speak(0, 1, 50);
        x.tap(1, 0);
        x.breathe(2);
        x.speak(0, 1, 50);
        x.row(0, 0, 3);
        Due.due("house anew", Due.read(x, "m2,0;" + PIPE + PIPE), 2);
        Due.due("rows stay", x.count(0), 1);
        x.drop(0);
        EarTrumpets fresh = Due.house("m2,0;" + PIPE + PIPE);
        Due.same("a house anew", Due.look(x), Due.look(fresh));
        Due.due("no act can be undone", x.undo(), Due.STATE);
    }

    /** Of a longer text that was on the tape before, nothing is read. */
    private static void shorterBehindLonger() {
        EarTrumpets x = Due.house("m2,0;" + PIPE);
        Due.due("no pipe", Due.read(x, "m2,0;"), -1000105);
        Due.due("fault", x.fault(), 1);
        Due.due("no end", Due.read(x, "m2,0;b0,1,1,0"), -1000113);
        Due.read(x, "m23,0;");
        Due.due("fault", x.fault(), 2);
        Due.due("no comma", Due.read(x, "m2"), -1000102);
        Due.due("fault", x.fault(), 1);
        Due.due("two pipes", Due.read(x, "m2,0;" + PIPE + PIPE), 2);
        Due.due("one pipe", Due.read(x, "m2,0;" + PIPE), 1);
        faulty("m" + "1".repeat(119), 1, 1);
        faulty("m2,0;" + PIPE + "x".repeat(106), 14, 1);
    }
}

/** Promises 18 to 27, and 30 to 32: what is FORETOLD without a ROW. */
public final class ForetoldTest {
    public static void main(String[] args) {
        ahead();
        first();
        hearers();
        quiet();
        shuts();
        opens();
        loud();
        say();
        round();
        way();
        cold();
        stuck();
        drawn();
        Due.end();
    }

    private static void ahead() {
        EarTrumpets x = Due.house("m3,1;d0,1,2,3;b1,2,1,0;b1,0,1,0;");
        x.speak(0, 8, 40);
        String before = Due.look(x);
        Due.due("not yet", x.ahead(1, 1, 0), Due.NONE);
        Due.due("not yet", x.ahead(1, 1, 1), Due.NONE);
        Due.due("word", x.ahead(1, 2, 0), 1);
        Due.due("loud", x.ahead(1, 2, 1), 39);
        Due.due("gone", x.ahead(1, 3, 0), Due.NONE);
        Due.due("on", x.ahead(2, 3, 1), 38);
        Due.due("round, changed again", x.ahead(1, 5, 0), 4);
        Due.due("round, less loud", x.ahead(1, 5, 1), 37);
        Due.due("n 60", x.ahead(1, 59, 1), 40 - 1 - 2 * 19);
        Due.due("n 60", x.ahead(1, 60, 1), Due.NONE);
        Due.due("n 0", x.ahead(1, 0, 0), Due.BAD);
        Due.due("n 61", x.ahead(1, 61, 0), Due.BAD);
        Due.due("what 2", x.ahead(1, 1, 2), Due.BAD);
        Due.due("what -1", x.ahead(1, 1, -1), Due.BAD);
        Due.due("horn 3", x.ahead(3, 1, 0), Due.BAD);
        Due.due("horn -1", x.ahead(-1, 1, 0), Due.BAD);
        Due.same("nothing changes", Due.look(x), before);
        Due.due("no house", new EarTrumpets().ahead(0, 1, 0), Due.BAD);
    }

    private static void first() {
        EarTrumpets x = Due.house("m3,0;b0,1,4,0;b1,0,1,0;b1,2,3,0;");
        Due.due("nobody speaks", x.first(1), Due.NONE);
        x.speak(0, 1, 1);
        Due.due("first", x.first(1), 4);
        Due.due("first", x.first(0), 5);
        Due.due("first", x.first(2), 7);
        x.tap(2, 0);
        Due.due("shut", x.first(2), Due.NONE);
        x.breathe(4);
        Due.due("next", x.first(1), 5);
        Due.due("horn 3", x.first(3), Due.BAD);
        Due.due("horn -1", x.first(-1), Due.BAD);
        Due.due("no house", new EarTrumpets().first(0), Due.BAD);
    }

    private static void hearers() {
        EarTrumpets x = Due.house("m4,0;b0,1,1,0;b1,2,2,0;b2,3,1,0;");
        x.speak(0, 1, 9);
        Due.due("in 1", x.hearers(1), 2);
        Due.due("in 2", x.hearers(2), 2);
        Due.due("in 3", x.hearers(3), 6);
        Due.due("in 4", x.hearers(4), 14);
        Due.due("in 60", x.hearers(60), 14);
        Due.due("in 0", x.hearers(0), Due.BAD);
        Due.due("in 61", x.hearers(61), Due.BAD);
        Due.due("STATE ahead of BAD", new EarTrumpets().hearers(0), Due.STATE);
    }

    private static void quiet() {
        EarTrumpets x = Due.house("m3,1;b0,1,3,0;b1,2,2,0;");
        Due.due("now", x.quiet(), 0);
        x.speak(0, 1, 2);
        Due.due("nothing is left of it at 2", x.quiet(), 5);
        x.hush();
        x.speak(0, 1, 1);
        Due.due("nothing comes out", x.quiet(), 3);
        EarTrumpets ring = Due.house("m2,1;b0,1,1,0;b1,0,1,0;");
        ring.speak(0, 1, 60);
        Due.due("60", ring.quiet(), 60);
        ring.speak(0, 1, 61);
        Due.due("61", ring.quiet(), Due.NONE);
        ring.breathe(1);
        Due.due("60 again", ring.quiet(), 60);
        Due.due("no house", new EarTrumpets().quiet(), Due.STATE);
    }

    private static void shuts() {
        // 0 to 3 by 1, by 2, and by 1 and 2; PIPE 4 alone leads from 3 on.
        EarTrumpets x = Due.house("m5,0;b0,1,1,0;b0,2,1,0;b1,3,1,0;b2,3,1,0;b3,4,1,0;");
        Due.due("two ways", x.shuts(0, 8, 9, 0), 2);
        Due.due("the least of several", x.shuts(0, 8, 9, 1), 3);
        Due.due("one place", x.shuts(0, 16, 9, 0), 1);
        Due.due("one place", x.shuts(0, 16, 9, 1), 16);
        Due.due("all but itself", x.shuts(0, 31, 9, 1), 3);
        Due.due("too few breaths", x.shuts(0, 16, 2, 0), 0);
        Due.due("one breath", x.shuts(0, 2, 1, 1), 1);
        Due.due("nobody told", x.shuts(0, 0, 30, 1), 0);
        Due.due("from elsewhere", x.shuts(1, 16, 30, 1), 4);
        x.speak(2, 1, 1);
        Due.due("on its way", x.shuts(0, 8, 9, 0), Due.NONE);
        Due.due("on its way", x.shuts(0, 8, 9, 1), Due.NONE);
        Due.due("on its way, but behind", x.shuts(0, 16, 9, 1), 16);
        x.tap(4, 0);
        Due.due("shut already", x.shuts(0, 16, 9, 1), 0);
        Due.due("what 2", x.shuts(0, 1, 1, 2), Due.BAD);
        Due.due("what -1", x.shuts(0, 1, 1, -1), Due.BAD);
        Due.due("n 0", x.shuts(0, 1, 0, 0), Due.BAD);
        Due.due("n 31", x.shuts(0, 1, 31, 0), Due.BAD);
        Due.due("horns 32", x.shuts(0, 32, 1, 0), Due.BAD);
        Due.due("horns -1", x.shuts(0, -1, 1, 0), Due.BAD);
        Due.due("horn 5", x.shuts(5, 1, 1, 0), Due.BAD);
        Due.due("horn -1", x.shuts(-1, 1, 1, 0), Due.BAD);
        Due.due("STATE ahead of BAD", new EarTrumpets().shuts(9, 9, 99, 9), Due.STATE);
        fewerAheadOfLess();
        loudBy50();
    }

    private static void fewerAheadOfLess() {
        // PIPES 0 and 1 together (3) are less as bits than PIPE 2 alone (4), but not fewer.
        EarTrumpets x = Due.house("m4,0;b1,3,1,0;b1,3,1,0;b0,1,1,0;");
        Due.due("fewest", x.shuts(0, 8, 9, 0), 1);
        Due.due("fewest", x.shuts(0, 8, 9, 1), 4);
        x.tap(0, 0);
        x.tap(1, 0);
        x.tap(2, 0);
        Due.due("fewest opened", x.opens(0, 3, 9, 0), 2);
        Due.due("the least opened", x.opens(0, 3, 9, 1), 5);
    }

    private static void loudBy50() {
        // Two narrow ones take 18 each, a third one 13, then 14.
        EarTrumpets x = Due.house("m4,9;n0,1,1,9;n1,2,1,9;n2,3,1,4;");
        Due.due("just heard", x.shuts(0, 8, 9, 0), 1);
        x.dent(2, 5);
        Due.due("not heard", x.shuts(0, 8, 9, 0), 0);
    }

    private static void opens() {
        EarTrumpets x = Due.house("m5,0;b0,1,1,0;b0,2,1,0;b1,3,1,0;b2,3,1,0;b3,4,1,0;");
        Due.due("open already", x.opens(0, 3, 9, 0), 0);
        Due.due("open already", x.opens(0, 3, 9, 1), 0);
        x.tap(0, 0);
        Due.due("by the other way", x.opens(0, 4, 9, 0), 0);
        x.tap(3, 0);
        Due.due("one of two", x.opens(0, 3, 9, 0), 1);
        Due.due("the least", x.opens(0, 3, 9, 1), 1);
        x.tap(1, 0);
        x.tap(2, 0);
        Due.due("two", x.opens(0, 4, 9, 0), 2);
        Due.due("the least", x.opens(0, 4, 9, 1), 5);
        Due.due("too few breaths", x.opens(0, 4, 2, 1), Due.NONE);
        Due.due("one breath", x.opens(1, 3, 1, 1), 4);
        Due.due("no way", x.opens(3, 0, 30, 0), Due.NONE);
        x.tap(1, 1);
        x.speak(0, 3, 1);
        x.tap(1, 0);
        Due.due("what is on its way", x.opens(4, 3, 9, 1), 8);
        Due.due("what 2", x.opens(0, 1, 1, 2), Due.BAD);
        Due.due("what -1", x.opens(0, 1, 1, -1), Due.BAD);
        Due.due("n 0", x.opens(0, 1, 0, 0), Due.BAD);
        Due.due("n 31", x.opens(0, 1, 31, 0), Due.BAD);
        Due.due("horn 5", x.opens(5, 1, 1, 0), Due.BAD);
        Due.due("horn -1", x.opens(-1, 1, 1, 0), Due.BAD);
        Due.due("other 5", x.opens(0, 5, 1, 0), Due.BAD);
        Due.due("other -1", x.opens(0, -1, 1, 0), Due.BAD);
        Due.due("no house", new EarTrumpets().opens(0, 0, 1, 0), Due.BAD);
    }

    private static void loud() {
        EarTrumpets x = Due.house("m4,3;b0,1,1,0;l1,2,1,0;n2,3,1,9;b2,0,1,0;");
        Due.due("brass", x.loud(0, 1, 1), 4);
        Due.due("and leaky", x.loud(0, 2, 2), 5);
        Due.due("and narrow", x.loud(0, 3, 3), 29);
        Due.due("too few breaths", x.loud(0, 3, 2), Due.NONE);
        Due.due("itself", x.loud(0, 0, 30), 11);
        Due.due("no way", x.loud(3, 0, 30), Due.NONE);
        x.speak(1, 1, 2);
        Due.due("HEARD without it", x.loud(0, 2, 30), 1);
        Due.due("as it is now", x.loud(1, 3, 30), 26);
        EarTrumpets steep = Due.house("m5,9;b0,1,1,0;l1,2,1,0;l2,3,1,0;n3,4,1,9;");
        Due.due("85", steep.loud(0, 4, 30), 85);
        EarTrumpets deaf = Due.house("m5,9;n0,1,1,9;l1,2,1,0;l2,3,1,0;n3,4,1,9;b4,3,1,0;");
        Due.due("94", deaf.loud(0, 4, 30), 94);
        EarTrumpets deafer = Due.house("m6,9;n0,1,1,9;l1,2,1,0;l2,3,1,0;n3,4,1,9;b4,5,1,0;");
        Due.due("above 99", deafer.loud(0, 5, 30), Due.NONE);
        EarTrumpets ring = Due.house("m6,8;n0,1,1,9;n1,2,1,9;n2,3,1,9;n3,4,1,9;n4,5,1,9;n5,0,1,5;");
        Due.due("99", ring.loud(0, 0, 30), 99);
        ring.dent(5, 6);
        Due.due("100", ring.loud(0, 0, 30), Due.NONE);
        Due.due("n 0", x.loud(0, 1, 0), Due.BAD);
        Due.due("n 31", x.loud(0, 1, 31), Due.BAD);
        Due.due("horn 4", x.loud(4, 1, 1), Due.BAD);
        Due.due("horn -1", x.loud(-1, 1, 1), Due.BAD);
        Due.due("other 4", x.loud(0, 4, 1), Due.BAD);
        Due.due("other -1", x.loud(0, -1, 1), Due.BAD);
        Due.due("no house", new EarTrumpets().loud(0, 0, 1), Due.BAD);
    }

    private static void say() {
        EarTrumpets x = Due.house("m3,0;d0,1,1,3;b0,1,2,0;o1,2,1,9;d1,0,1,1;");
        Due.due("in one breath", x.say(0, 1, 2, 1), 1 << 9);
        Due.due("in two, by both", x.say(0, 1, 2, 2), 1 << 9 | 1 << 2);
        Due.due("on", x.say(0, 2, 0, 2), 1 << 8);
        Due.due("itself", x.say(0, 0, 0, 2), 1 << 6);
        Due.due("nothing", x.say(2, 0, 0, 30), 0);
        x.speak(0, 5, 60);
        Due.due("as loud in there stays", x.say(0, 1, 8, 1), 1023);
        Due.due("as loud in there stays", x.say(0, 1, 7, 1), 0);
        EarTrumpets far = Due.house("m3,0;n0,1,1,9;n1,2,1,9;");
        far.speak(0, 5, 59);
        Due.due("60 is louder", far.say(0, 2, 4, 2), 1 << 4);
        Due.due("word 10", x.say(0, 1, 10, 1), Due.BAD);
        Due.due("word -1", x.say(0, 1, -1, 1), Due.BAD);
        Due.due("n 0", x.say(0, 1, 0, 0), Due.BAD);
        Due.due("n 31", x.say(0, 1, 0, 31), Due.BAD);
        Due.due("horn 3", x.say(3, 1, 0, 1), Due.BAD);
        Due.due("horn -1", x.say(-1, 1, 0, 1), Due.BAD);
        Due.due("other 3", x.say(0, 3, 0, 1), Due.BAD);
        Due.due("other -1", x.say(0, -1, 0, 1), Due.BAD);
        Due.due("no house", new EarTrumpets().say(0, 0, 0, 1), Due.BAD);
    }

    private static void round() {
        EarTrumpets x = Due.house("m3,0;b0,1,2,0;b1,0,4,0;b1,2,1,0;b2,0,2,0;");
        Due.due("the first", x.round(0), 5);
        x.tap(2, 0);
        Due.due("by the longer one", x.round(0), 6);
        x.speak(1, 1, 99);
        x.breathe(3);
        Due.due("with nothing in pipes", x.round(0), 6);
        Due.due("as it is", x.first(0), 1);
        x.tap(1, 0);
        Due.due("no way", x.round(0), Due.NONE);
        Due.due("no way back", x.round(2), Due.NONE);
        EarTrumpets faint = Due.house("m5,9;n0,1,1,9;n1,2,1,9;n2,3,1,9;n3,4,1,9;n4,0,1,8;");
        Due.due("by 90 just heard", faint.round(0), 5);
        faint.dent(4, 9);
        Due.due("by 90 not heard", faint.round(0), Due.NONE);
        Due.due("horn 3", x.round(3), Due.BAD);
        Due.due("horn -1", x.round(-1), Due.BAD);
        Due.due("no house", new EarTrumpets().round(0), Due.BAD);
    }

    private static void way() {
        EarTrumpets x = Due.house("m6,0;b0,1,1,0;b1,2,1,0;b2,3,1,0;b3,4,1,0;b4,5,1,0;b0,4,4,0;");
        Due.due("alike", x.way(5, 5), 0);
        Due.due("one", x.way(0, 4), 1);
        Due.due("two", x.way(0, 5), 2);
        Due.due("three", x.way(0, 3), 3);
        Due.due("not back", x.way(5, 0), Due.NONE);
        x.tap(5, 0);
        Due.due("all", x.way(0, 5), 5);
        x.tap(2, 0);
        Due.due("shut", x.way(0, 5), Due.NONE);
        Due.due("horn 6", x.way(6, 0), Due.BAD);
        Due.due("horn -1", x.way(-1, 0), Due.BAD);
        Due.due("other 6", x.way(0, 6), Due.BAD);
        Due.due("other -1", x.way(0, -1), Due.BAD);
        Due.due("no house", new EarTrumpets().way(0, 0), Due.BAD);
    }

    private static void cold() {
        EarTrumpets x = Due.house("m4,0;b0,1,2,0;b1,2,3,0;b2,3,1,0;b3,0,1,0;");
        Due.due("all", x.cold(60), 15);
        x.speak(0, 1, 5);
        Due.due("one is not", x.cold(1), 14);
        Due.due("it comes in", x.cold(2), 12);
        Due.due("not yet", x.cold(4), 12);
        Due.due("it comes in", x.cold(5), 8);
        Due.due("all round", x.cold(6), 0);
        x.tap(1, 0);
        Due.due("shut", x.cold(60), 14);
        x.breathe(2);
        Due.due("gone", x.cold(60), 15);
        Due.due("n 0", x.cold(0), Due.BAD);
        Due.due("n 61", x.cold(61), Due.BAD);
        Due.due("STATE ahead of BAD", new EarTrumpets().cold(0), Due.STATE);
    }

    private static void fraction(EarTrumpets x, int horn, int n, int p, long above, long below) {
        Due.due("above, p " + p, x.stuck(horn, n, p, 0), above);
        Due.due("below, p " + p, x.stuck(horn, n, p, 1), below);
    }

    private static void stuck() {
        EarTrumpets x = Due.house("m4,0;b0,1,1,0;b0,2,1,0;b1,3,1,0;b2,3,1,0;b3,0,1,0;");
        fraction(x, 3, 30, 5, 0, 1);
        x.speak(0, 1, 9);
        fraction(x, 1, 30, 10, 1, 1);
        fraction(x, 3, 1, 5, 0, 1);
        fraction(x, 3, 2, 5, 3, 4);
        fraction(x, 3, 2, 1, 99, 100);
        fraction(x, 3, 2, 0, 1, 1);
        fraction(x, 3, 2, 10, 0, 1);
        fraction(x, 0, 3, 2, 96, 125);
        x.tap(2, 0);
        fraction(x, 3, 2, 3, 7, 10);
        seven();
        Due.due("n 0", x.stuck(0, 0, 0, 0), Due.BAD);
        Due.due("n 31", x.stuck(0, 31, 0, 0), Due.BAD);
        Due.due("p 11", x.stuck(0, 1, 11, 0), Due.BAD);
        Due.due("p -1", x.stuck(0, 1, -1, 0), Due.BAD);
        Due.due("what 2", x.stuck(0, 1, 0, 2), Due.BAD);
        Due.due("what -1", x.stuck(0, 1, 0, -1), Due.BAD);
        Due.due("horn 4", x.stuck(4, 1, 0, 0), Due.BAD);
        Due.due("horn -1", x.stuck(-1, 1, 0, 0), Due.BAD);
        Due.due("no house", new EarTrumpets().stuck(0, 1, 0, 0), Due.BAD);
    }

    private static void seven() {
        // A sound goes round by seven PIPES, six of which it must go into yet.
        EarTrumpets x = Due.house("m6,0;b0,1,1,0;b1,2,1,0;b2,3,1,0;b3,4,1,0;b4,5,1,0;b5,0,1,0;b0,1,4,0;");
        x.speak(5, 1, 9);
        fraction(x, 5, 30, 1, 99L * 9 * 9 * 9 * 9, 1000000);
        fraction(x, 5, 30, 9, 19, 1000000);
    }

    private static void drawn() {
        EarTrumpets x = Due.house("m3,0;b0,1,1,0;b1,2,2,0;b2,0,3,0;");
        Due.due("none", x.drawn(0, 1, 0), 0);
        Due.due("none", x.drawn(0, 1, 1), 0);
        x.speak(0, 1, 40);
        Due.due("sounds that are there", x.drawn(0, 7, 1), 1);
        sittings("m3,0;b0,1,1,0;b1,2,2,0;b2,0,3,0;");
        // Nothing is left of 40 behind the three PIPES.
        sittings("m3,5;n0,1,1,8;n1,2,2,8;n2,0,1,9;");
        Due.due("n -1", x.drawn(-1, 1, 0), Due.BAD);
        Due.due("n 61", x.drawn(61, 1, 0), Due.BAD);
        Due.due("seed 0", x.drawn(1, 0, 0), Due.BAD);
        Due.due("seed 1000000", x.drawn(1, 1000000, 0), Due.BAD);
        Due.due("what 2", x.drawn(1, 1, 2), Due.BAD);
        Due.due("what -1", x.drawn(1, 1, -1), Due.BAD);
        Due.due("STATE ahead of BAD", new EarTrumpets().drawn(99, 0, 9), Due.STATE);
    }

    private static void sittings(String text) {
        EarTrumpets x = Due.house(text);
        x.speak(0, 1, 40);
        String before = Due.look(x);
        for (int seed = 1; seed < 60; seed += 3) {
            for (int n = 0; n <= 20; n++) {
                Due.due("how often", x.drawn(n, seed, 0), sitting(text, n, seed, true));
                Due.due("how many", x.drawn(n, seed, 1), sitting(text, n, seed, false));
            }
        }
        Due.same("nothing changes", Due.look(x), before);
    }

    /** A sitting in a house of three HORNS, done by the calls that do what is foretold. */
    private static int sitting(String text, int n, int seed, boolean hearings) {
        EarTrumpets y = Due.house(text);
        y.speak(0, 1, 40);
        long x = seed;
        int heard = 0;
        for (int i = 0; i < n; i++) {
            x = x * 16807L % 2147483647L;
            if (x % 3 == 0) {
                y.speak((int) (x % 3), (int) (x % 10), 40);
            }
            heard += Integer.bitCount(y.breathe(1));
        }
        return hearings ? heard : y.count(5);
    }
}

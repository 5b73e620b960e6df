/**
 * The bounds that 'Terms' names for ROWS, sounds, BREATHS, SPEECHES and ACTS, and what promises 1 to
 * 17 answer there: each at the bound itself and on both sides of it.
 */
public final class BoundsTest {
    public static void main(String[] args) {
        newObject();
        itemsAtFirst();
        lowestBits();
        stretches();
        drops();
        brass();
        dented();
        narrow();
        leaky();
        old();
        dentsThatDoNothing();
        loudestCounts();
        wayThroughPlaces();
        speechIntoFirstPlace();
        speechIntoPipes();
        shutTaps();
        lastTapShut();
        actsKept();
        actsThatChangeNothing();
        breathAt999();
        hush();
        places();
        heardLast();
        Due.end();
    }

    /** Promise 1, and what is 0, or NONE, before anything was done. */
    private static void newObject() {
        EarTrumpets x = new EarTrumpets();
        for (int what = 0; what < 8; what++) {
            Due.due("new: count " + what, x.count(what), 0);
        }
        Due.due("new: fault", x.fault(), 0);
        Due.due("new: status", x.status(), 0);
        Due.due("new: undo", x.undo(), Due.STATE);
        for (int i = -1; i < 18; i++) {
            Due.due("new: trace " + i, x.trace(i), Due.NONE);
        }
        for (int k = 0; k < 2; k++) {
            Due.due("new: image", x.image(k), Due.STATE);
            Due.due("new: restore", x.restore(k), Due.STATE);
        }
        for (int r = 0; r < 8; r++) {
            Due.due("new: drop " + r, x.drop(r), Due.NULL);
        }
    }

    // ---- 1: ROWS

    /** ITEMS are 0 at first, even where a longer ROW was before a shorter one. */
    private static void itemsAtFirst() {
        for (int size : new int[] {0, 1, 39, 40}) {
            EarTrumpets x = Due.house("m2,0;b0,1,1,0;");
            x.row(5, 2, 40);
            for (int i = 0; i < 40; i++) {
                x.set(5, i, 7);
            }
            Due.due("row of " + size, x.row(5, 2, size), size);
            Due.due("the last item", x.set(5, size - 1, 7), size == 0 ? Due.PLACE : 7);
            Due.due("behind it", x.set(5, size, 7), Due.PLACE);
            Due.due("row of 40", x.row(5, 0, 40), 40);
            x.speak(0, 0, 1);
            for (int i = 0; i < 40; i++) {
                Due.due("0 at first, " + i, x.who(0, 2, 1, 5, i, 1), 3);
            }
        }
    }

    private static void lowestBits() {
        EarTrumpets x = new EarTrumpets();
        x.row(0, 0, 1);
        x.row(1, 1, 1);
        x.row(2, 2, 1);
        int[] values = {0, 1, -1, 127, 128, 129, 255, 256, -127, -128, -129, 32767, 32768, 32769, 65535, 65536,
            -32767, -32768, -32769, Integer.MAX_VALUE, Integer.MIN_VALUE, Integer.MAX_VALUE - 128};
        int[] bytes = {0, 1, -1, 127, -128, -127, -1, 0, -127, -128, 127, -1, 0, 1, -1, 0,
            1, 0, -1, -1, 0, 127};
        int[] shorts = {0, 1, -1, 127, 128, 129, 255, 256, -127, -128, -129, 32767, -32768, -32767, -1, 0,
            -32767, -32768, 32767, -1, 0, -129};
        for (int i = 0; i < values.length; i++) {
            Due.due("byte of " + values[i], x.set(0, 0, values[i]), bytes[i]);
            Due.due("short of " + values[i], x.set(1, 0, values[i]), shorts[i]);
            Due.due("int of " + values[i], x.set(2, 0, values[i]), values[i]);
        }
    }

    /** Promise 4: PLACE is i, j, n below 0, or beyond an end. */
    private static void stretches() {
        EarTrumpets x = new EarTrumpets();
        x.row(0, 1, 40);
        x.row(1, 1, 3);
        x.row(2, 1, 0);
        Due.due("all", x.copy(0, 0, 0, 0, 40), 40);
        Due.due("one more", x.copy(0, 0, 0, 0, 41), Due.PLACE);
        Due.due("to the end of both", x.copy(0, 37, 1, 0, 3), 3);
        Due.due("beyond the end of a", x.copy(0, 38, 1, 0, 3), Due.PLACE);
        Due.due("to the end of b", x.copy(0, 0, 1, 2, 1), 1);
        Due.due("beyond the end of b", x.copy(0, 0, 1, 3, 1), Due.PLACE);
        Due.due("none at the end of a", x.copy(0, 40, 1, 0, 0), 0);
        Due.due("none beyond it", x.copy(0, 41, 1, 0, 0), Due.PLACE);
        Due.due("none at the end of b", x.copy(0, 0, 1, 3, 0), 0);
        Due.due("none beyond it", x.copy(0, 0, 1, 4, 0), Due.PLACE);
        Due.due("none of none", x.copy(2, 0, 2, 0, 0), 0);
        Due.due("one of none", x.copy(2, 0, 1, 0, 1), Due.PLACE);
        Due.due("one to none", x.copy(1, 0, 2, 0, 1), Due.PLACE);
        Due.due("fewer than none", x.copy(0, 1, 1, 1, -1), Due.PLACE);
        int most = Integer.MAX_VALUE;
        int least = Integer.MIN_VALUE;
        Due.due("i and n wrap around", x.copy(0, most, 1, 0, most), Due.PLACE);
        Due.due("i and n wrap around to 0", x.copy(0, least, 1, 0, least), Due.PLACE);
        Due.due("j and n wrap around", x.copy(0, 0, 1, most, 1), Due.PLACE);
        Due.due("j below 0 by far", x.copy(0, 0, 1, least, 0), Due.PLACE);
    }

    private static void drops() {
        EarTrumpets x = new EarTrumpets();
        for (int r = 0; r < 8; r++) {
            x.row(r, r % 3, r * 5);
            Due.due("rows", x.count(0), r + 1);
        }
        x.row(7, 0, 40);
        Due.due("in place of one", x.count(0), 8);
        Due.due("of 40", x.drop(7), 40);
        Due.due("of 0", x.drop(0), 0);
        Due.due("missing", x.drop(0), Due.NULL);
        Due.due("rows", x.count(0), 6);
        Due.due("anew", x.row(0, 0, 0), 0);
        Due.due("rows", x.count(0), 7);
    }

    // ---- 2: what COMES OUT

    /** What COMES OUT at HORN 1 of a PIPE from 0 to 1: 100 times the WORD, and LOUD; NONE. */
    private static void out(String sort, int loss, int dent, int word, int loud, int due) {
        String what = sort + ", loss " + loss + ", dent " + dent + ", " + word + " by " + loud;
        EarTrumpets x = Due.house("m3," + loss + ";" + sort + "0,1,1," + dent + ";b1,2,1,0;");
        x.speak(0, word, loud);
        Due.due("ahead, " + what, x.ahead(1, 1, 1), due == Due.NONE ? Due.NONE : due % 100);
        Due.due("horns, " + what, x.breathe(1), due == Due.NONE ? 0 : 2);
        Due.due("on, " + what, x.inside(1, 0), due);
        Due.due("word, " + what, x.horn(1, 0), due == Due.NONE ? Due.NONE : due / 100);
        Due.due("loud, " + what, x.horn(1, 1), due == Due.NONE ? 0 : due % 100);
        Due.due("breath, " + what, x.horn(1, 2), due == Due.NONE ? Due.NONE : 0);
    }

    private static void brass() {
        out("b", 0, 0, 0, 1, 1);
        out("b", 0, 0, 9, 99, 999);
        out("b", 1, 0, 3, 1, Due.NONE);
        out("b", 1, 0, 3, 2, 301);
        out("b", 9, 0, 3, 1, Due.NONE);
        out("b", 9, 0, 3, 8, Due.NONE);
        out("b", 9, 0, 3, 9, Due.NONE);
        out("b", 9, 0, 3, 10, 301);
        out("b", 9, 0, 3, 11, 302);
        out("b", 9, 0, 0, 99, 90);
    }

    private static void dented() {
        out("d", 0, 0, 0, 1, 1);
        out("d", 0, 9, 0, 50, 950);
        out("d", 0, 1, 8, 50, 950);
        out("d", 0, 1, 9, 50, 50);
        out("d", 0, 2, 9, 50, 150);
        out("d", 0, 9, 9, 50, 850);
        out("d", 9, 9, 9, 8, Due.NONE);
        out("d", 9, 9, 9, 9, Due.NONE);
        out("d", 9, 9, 9, 10, 801);
    }

    private static void narrow() {
        out("n", 0, 0, 5, 1, 501);
        out("n", 0, 9, 5, 8, Due.NONE);
        out("n", 0, 9, 5, 9, Due.NONE);
        out("n", 0, 9, 5, 10, 501);
        out("n", 9, 9, 5, 1, Due.NONE);
        out("n", 9, 9, 5, 17, Due.NONE);
        out("n", 9, 9, 5, 18, Due.NONE);
        out("n", 9, 9, 5, 19, 501);
        out("n", 9, 9, 9, 99, 981);
    }

    private static void leaky() {
        for (int loss : new int[] {0, 9}) {
            out("l", loss, 0, 5, 1, Due.NONE);
            out("l", loss, 9, 5, 2, 501);
            out("l", loss, 9, 5, 3, 501);
            out("l", loss, 9, 5, 4, 502);
            out("l", loss, 0, 9, 98, 949);
            out("l", loss, 9, 9, 99, 949);
        }
    }

    private static void old() {
        for (int loss : new int[] {0, 9}) {
            out("o", loss, 9, 5, 1, Due.NONE);
            out("o", loss, 4, 5, 2, 901);
            out("o", loss, 5, 5, 3, 1);
            out("o", loss, 6, 5, 4, 102);
            out("o", loss, 0, 0, 99, 49);
            out("o", loss, 9, 9, 99, 849);
        }
    }

    private static void dentsThatDoNothing() {
        for (int dent = 0; dent < 10; dent++) {
            out("b", 4, dent, 8, 50, 846);
            out("l", 4, dent, 8, 50, 825);
            out("n", 4, dent, 8, 50, 846 - dent);
            out("d", 4, dent, 8, 50, (8 + dent) % 10 * 100 + 46);
            out("o", 4, dent, 8, 50, (8 + dent) % 10 * 100 + 25);
        }
    }

    // ---- 2: a BREATH

    /** Of two PIPES that come together the loudest of what COMES OUT counts, of two alike the first PIPE's. */
    private static void loudestCounts() {
        for (int by = -1; by <= 1; by++) {
            EarTrumpets x = Due.house("m4,0;b0,2,1,0;b1,2,1,0;b2,3,1,0;");
            x.speak(1, 2, 40 + by);
            x.speak(0, 1, 40);
            x.breathe(1);
            Due.due("by " + by, x.horn(2, 0), by > 0 ? 2 : 1);
            Due.due("goes on, by " + by, x.inside(2, 0), by > 0 ? 241 : 140);
            // PIPE 0 takes 2, so that what COMES OUT of both is alike if 2 more went in.
            EarTrumpets y = Due.house("m4,0;n0,2,1,2;b1,2,1,0;b2,3,1,0;");
            y.speak(1, 2, 40);
            y.speak(0, 1, 42 - by);
            y.breathe(1);
            Due.due("what comes out counts, by " + by, y.horn(2, 0), by > 0 ? 2 : 1);
        }
        for (int loudest = 0; loudest < 7; loudest++) {
            // PIPE p has the WORD p; only the loudest one's is louder than that of PIPE 0.
            EarTrumpets seven = Due.house("m2,0;" + "b0,1,1,0;".repeat(7));
            for (int p = 6; p >= 0; p--) {
                seven.tap(p, 0);
            }
            for (int p = 0; p < 7; p++) {
                seven.tap(p, 1);
                seven.speak(0, p, p == loudest ? 21 : 20);
                seven.tap(p, 0);
            }
            seven.breathe(1);
            Due.due("the loudest of seven", seven.horn(1, 0), loudest);
        }
        EarTrumpets nothing = Due.house("m3,9;b0,2,1,0;l1,2,1,0;");
        nothing.speak(0, 1, 9);
        nothing.speak(1, 2, 2);
        nothing.breathe(1);
        Due.due("what is nothing does not count", nothing.horn(2, 0), 2);
        nothing.speak(0, 1, 9);
        Due.due("nobody", nothing.breathe(1), 0);
        Due.due("heard last", nothing.horn(2, 2), 0);
    }

    /** A PIPE has as many places as its LENGTH, 1 to 4. */
    private static void wayThroughPlaces() {
        for (int length = 1; length <= 4; length++) {
            EarTrumpets x = Due.house("m2,0;b0,1," + length + ",0;");
            Due.due("place -1", x.inside(0, -1), Due.BAD);
            Due.due("the last place", x.inside(0, length - 1), Due.NONE);
            Due.due("behind it", x.inside(0, length), Due.BAD);
            x.speak(0, 6, 70);
            for (int b = 0; b < length; b++) {
                for (int place = 0; place < length; place++) {
                    Due.due("place " + place + " behind " + b, x.inside(0, place), place == b ? 670 : Due.NONE);
                }
                Due.due("sounds", x.pipe(0, 5), 1);
                Due.due("breath " + b, x.breathe(1), b == length - 1 ? 2 : 0);
            }
            Due.due("gone", x.pipe(0, 5), 0);
        }
    }

    // ---- 2: a SPEECH

    /** It goes in if the first place is empty, or less LOUD: what came by a SPEECH, or by a BREATH. */
    private static void speechIntoFirstPlace() {
        for (int loud = 49; loud <= 51; loud++) {
            EarTrumpets x = Due.house("m3,0;b0,1,1,0;b1,2,2,0;");
            x.speak(0, 3, 50);
            Due.due("by " + loud + " on a speech", x.speak(0, 8, loud), loud > 50 ? 1 : 0);
            Due.due("then there is", x.inside(0, 0), loud > 50 ? 851 : 350);
            x.breathe(1);
            int came = loud > 50 ? 51 : 50;
            Due.due("less than what came by a breath", x.speak(1, 9, came - 1), 0);
            Due.due("as loud", x.speak(1, 9, came), 0);
            Due.due("louder", x.speak(1, 9, came + 1), 1);
            Due.due("then there is", x.inside(1, 0), 901 + came);
            x.breathe(1);
            Due.due("empty then", x.speak(1, 0, 1), 1);
            Due.due("the second place stays", x.inside(1, 1), 901 + came);
            Due.due("the least sound", x.inside(1, 0), 1);
        }
    }

    private static void speechIntoPipes() {
        EarTrumpets x = Due.house("m2,0;" + "b0,1,1,0;".repeat(7));
        Due.due("no pipe from there", x.speak(1, 0, 99), 0);
        Due.due("seven", x.speak(0, 0, 1), 7);
        Due.due("none", x.speak(0, 0, 1), 0);
        for (int p = 0; p < 7; p++) {
            x.tap(p, 0);
            Due.due("some are shut", x.speak(0, 0, 10 + p), 6 - p);
        }
    }

    private static void shutTaps() {
        EarTrumpets x = Due.house("m3,0;b0,1,1,0;b1,2,3,0;");
        x.speak(1, 5, 20);
        x.speak(0, 4, 30);
        x.tap(1, 0);
        Due.due("into a shut one nothing goes by a breath", x.breathe(1), 2);
        Due.due("first place", x.inside(1, 0), Due.NONE);
        Due.due("what is in it goes on", x.inside(1, 1), 520);
        Due.due("nor by a speech", x.speak(1, 9, 99), 0);
        Due.due("first place", x.inside(1, 0), Due.NONE);
        Due.due("goes on", x.breathe(1), 0);
        Due.due("comes out", x.breathe(1), 4);
        x.tap(1, 1);
        Due.due("what was heard does not go in later", x.count(5), 0);
        EarTrumpets y = Due.house("m2,0;b0,1,1,0;");
        y.speak(0, 4, 30);
        y.tap(0, 0);
        Due.due("a speech that is in stays in", y.inside(0, 0), 430);
        Due.due("and comes out", y.breathe(1), 2);
    }

    /** Promise 12: which are open, from all of seven to none. */
    private static void lastTapShut() {
        EarTrumpets x = Due.house("m2,0;" + "b0,1,1,0;".repeat(7));
        int open = 127;
        for (int p = 6; p >= 0; p--) {
            Due.due("it is open", x.tap(p, 1), Due.STATE);
            open -= 1 << p;
            Due.due("shut", x.tap(p, 0), open);
            Due.due("it is shut", x.tap(p, 0), Due.STATE);
            Due.due("count", x.count(4), open);
            Due.due("pipe", x.pipe(p, 4), 0);
        }
        for (int p = 0; p < 7; p++) {
            open += 1 << p;
            Due.due("opened", x.tap(p, 1), open);
        }
    }

    // ---- 2: ACTS

    /** 24 at most are kept, of more the oldest is forgotten. */
    private static void actsKept() {
        for (int acts : new int[] {1, 23, 24, 25, 26, 47, 48, 49}) {
            EarTrumpets x = Due.house("m2,0;d0,1,1,0;");
            for (int i = 1; i <= acts; i++) {
                x.dent(0, i % 10);
                Due.due("kept of " + i, x.count(6), Math.min(i, 24));
            }
            int kept = Math.min(acts, 24);
            for (int left = kept - 1; left >= 0; left--) {
                Due.due("undo", x.undo(), left);
                Due.due("dent then", x.pipe(0, 3), (acts - kept + left) % 10);
            }
            Due.due("none", x.undo(), Due.STATE);
            Due.due("none is kept", x.count(6), 0);
            Due.due("dent stays", x.pipe(0, 3), (acts - kept) % 10);
        }
        for (int breaths : new int[] {1, 23, 24}) {
            EarTrumpets x = Due.house("m2,0;d0,1,1,0;");
            x.dent(0, 5);
            x.breathe(breaths);
            Due.due("an act each", x.count(6), Math.min(breaths + 1, 24));
            while (x.undo() != Due.STATE) {
                Due.due("breath", x.count(3) <= breaths ? 1 : 0, 1);
            }
            Due.due("breath", x.count(3), 0);
            Due.due("the dent is forgotten by 24 breaths", x.pipe(0, 3), breaths == 24 ? 5 : 0);
        }
    }

    /** What is not refused is an ACT, even if all is as it was. */
    private static void actsThatChangeNothing() {
        EarTrumpets x = Due.house("m2,0;d0,1,1,3;");
        Due.due("the same dent", x.dent(0, 3), 3);
        Due.due("an act", x.count(6), 1);
        Due.due("a speech into no pipe", x.speak(1, 0, 1), 0);
        Due.due("an act", x.count(6), 2);
        Due.due("a hush of nothing", x.hush(), 0);
        Due.due("an act", x.count(6), 3);
        Due.due("undo", x.undo(), 2);
        Due.due("undo", x.undo(), 1);
        Due.due("undo", x.undo(), 0);
        Due.due("none", x.undo(), Due.STATE);
    }

    // ---- promises 10, 14, 16, 17

    private static EarTrumpets atBreath(int breath) {
        EarTrumpets x = Due.house("m2,0;b0,1,1,0;b1,0,1,0;");
        for (int left = breath; left > 0; left -= 24) {
            x.breathe(Math.min(left, 24));
        }
        Due.due("breath", x.count(3), breath);
        return x;
    }

    private static void breathAt999() {
        for (int n : new int[] {1, 2, 23, 24}) {
            Due.due("998, n " + n, atBreath(998 - n).breathe(n), 0);
            Due.due("999, n " + n, atBreath(999 - n).breathe(n), 0);
            Due.due("1000, n " + n, atBreath(1000 - n).breathe(n), Due.FULL);
        }
        EarTrumpets x = atBreath(998);
        x.speak(0, 7, 99);
        Due.due("the last breath", x.breathe(1), 2);
        Due.due("its number", x.horn(1, 2), 998);
        Due.due("breath", x.count(3), 999);
        Due.due("none more", x.breathe(1), Due.FULL);
        Due.due("what is foretold has no such end", x.ahead(0, 60, 0), Due.NONE);
        Due.due("what is foretold has no such end", x.ahead(0, 59, 0), 7);
        Due.due("first", x.first(0), 1);
        Due.due("hearers", x.hearers(60), 3);
        Due.due("quiet", x.quiet(), Due.NONE);
        Due.due("sitting", x.drawn(60, 1, 0) >= 60 ? 1 : 0, 1);
        Due.due("speech", x.speak(0, 7, 1), 1);
        Due.due("undone", x.undo() + x.undo() >= 0 ? 1 : 0, 1);
        Due.due("breath", x.count(3), 998);
        Due.due("the last breath anew", x.breathe(1), 2);
    }

    /** From no sound to 28 of them, 7 PIPES with 4 places each. */
    private static void hush() {
        EarTrumpets x = Due.house("m2,0;" + "b0,1,4,0;".repeat(7));
        Due.due("none", x.hush(), 0);
        for (int b = 0; b < 4; b++) {
            x.speak(0, b, 9);
            Due.due("sounds", x.count(5), 7 * (b + 1));
            if (b < 3) {
                x.breathe(1);
            }
        }
        Due.due("in one", x.pipe(6, 5), 4);
        Due.due("all", x.hush(), 28);
        Due.due("none then", x.count(5), 0);
        Due.due("none in one", x.pipe(6, 5), 0);
        Due.due("undone", x.undo() >= 0 ? x.count(5) : -1, 28);
        EarTrumpets dented = Due.house("m6,9;" + "o5,4,4,9;".repeat(7));
        Due.due("none, whatever the dents", dented.count(5), 0);
        Due.due("none, whatever the dents", dented.hush(), 0);
    }

    private static void places() {
        EarTrumpets x = Due.house("m2,0;b0,1,4,0;b0,1,1,0;");
        x.speak(0, 0, 1);
        Due.due("the least sound", x.inside(0, 0), 1);
        x.breathe(3);
        x.speak(0, 9, 99);
        Due.due("the most", x.inside(0, 0), 999);
        Due.due("the last place", x.inside(0, 3), 1);
        Due.due("between", x.inside(0, 1), Due.NONE);
        Due.due("behind", x.inside(0, 4), Due.BAD);
        Due.due("behind the shorter one", x.inside(1, 1), Due.BAD);
        Due.due("in it", x.inside(1, 0), 999);
    }

    /** Promise 17: before anything, in BREATH 0, and PIPES from and to a HORN, from none to seven. */
    private static void heardLast() {
        EarTrumpets x = Due.house("m3,0;" + "b0,1,1,0;".repeat(7));
        for (int h = 0; h < 3; h++) {
            Due.due("word", x.horn(h, 0), Due.NONE);
            Due.due("loud", x.horn(h, 1), 0);
            Due.due("breath", x.horn(h, 2), Due.NONE);
            Due.due("from " + h, x.horn(h, 3), h == 0 ? 127 : 0);
            Due.due("to " + h, x.horn(h, 4), h == 1 ? 127 : 0);
        }
        x.speak(0, 0, 1);
        x.breathe(1);
        Due.due("word 0", x.horn(1, 0), 0);
        Due.due("loud 1", x.horn(1, 1), 1);
        Due.due("breath 0", x.horn(1, 2), 0);
        x.breathe(24);
        Due.due("nothing since: word", x.horn(1, 0), 0);
        Due.due("nothing since: breath", x.horn(1, 2), 0);
        x.speak(0, 9, 99);
        x.breathe(1);
        Due.due("word 9", x.horn(1, 0), 9);
        Due.due("loud 99", x.horn(1, 1), 99);
        Due.due("breath 25", x.horn(1, 2), 25);
        x.undo();
        Due.due("undone: word", x.horn(1, 0), 0);
        Due.due("undone: breath", x.horn(1, 2), 0);
        EarTrumpets all = Due.house("m6,0;b0,1,1,0;b1,2,1,0;b2,3,1,0;b3,4,1,0;b4,5,1,0;b5,0,1,0;");
        for (int h = 0; h < 6; h++) {
            all.speak(h, h, 50);
        }
        Due.due("all six hear", all.breathe(24), 63);
    }
}

/**
 * The bounds that 'Terms' names for what is FORETOLD and asked, and what promises 18 to 40 answer
 * there: none, all, the least and the most, in just as many BREATHS as it takes and in one less.
 */
public final class ForetoldBoundsTest {
    private static final int RING_BREATHS = 24;

    public static void main(String[] args) {
        ahead();
        firstAndHearers();
        quiet();
        shutInBreaths();
        shutTaps();
        openInBreaths();
        openTaps();
        loudInBreaths();
        loudness();
        sayInBreaths();
        sayLoudBy60();
        round();
        way();
        who();
        rowsOfTold();
        spoke();
        cold();
        stuck();
        drawn();
        images();
        kinds();
        asks();
        status();
        Due.end();
    }

    /** Six HORNS in a ring of six PIPES, LENGTH 4 each: the longest way that there is. */
    private static EarTrumpets ring() {
        return Due.house("m6,0;b0,1,4,0;b1,2,4,0;b2,3,4,0;b3,4,4,0;b4,5,4,0;b5,0,4,0;");
    }

    // ---- AHEAD, FIRST, HEARERS, QUIET

    private static void ahead() {
        EarTrumpets x = Due.house("m2,0;b0,1,1,0;b1,0,1,0;");
        x.speak(0, 9, 99);
        for (int n = 1; n <= 60; n++) {
            Due.due("word at 1 in " + n, x.ahead(1, n, 0), n % 2 == 1 ? 9 : Due.NONE);
            Due.due("word at 0 in " + n, x.ahead(0, n, 0), n % 2 == 0 ? 9 : Due.NONE);
            Due.due("loud at 0 in " + n, x.ahead(0, n, 1), n % 2 == 0 ? 99 : Due.NONE);
        }
        EarTrumpets faint = Due.house("m2,1;b0,1,1,0;b1,0,1,0;");
        faint.speak(0, 0, 61);
        Due.due("by 1 in 60", faint.ahead(0, 60, 1), 1);
        Due.due("word 0", faint.ahead(0, 60, 0), 0);
        faint.hush();
        faint.speak(0, 0, 60);
        Due.due("by 0 in 60", faint.ahead(0, 60, 1), Due.NONE);
        Due.due("by 1 in 59", faint.ahead(1, 59, 1), 1);
    }

    private static void firstAndHearers() {
        EarTrumpets x = ring();
        for (int h = 0; h < 6; h++) {
            Due.due("nobody spoke", x.first(h), Due.NONE);
        }
        Due.due("nobody", x.hearers(60), 0);
        x.speak(0, 1, 9);
        for (int h = 0; h < 6; h++) {
            int due = h == 0 ? RING_BREATHS : 4 * h;
            Due.due("first of " + h, x.first(h), due);
            Due.due("just not", x.hearers(due - 1) >> h & 1, 0);
            Due.due("just so", x.hearers(due) >> h & 1, 1);
        }
        Due.due("all", x.hearers(60), 63);
        Due.due("all", x.hearers(24), 63);
        Due.due("all but one", x.hearers(23), 62);
        Due.due("nobody yet", x.hearers(3), 0);
        x.breathe(3);
        Due.due("next", x.first(1), 1);
        Due.due("in the next one", x.hearers(1), 2);
        x.breathe(1);
        Due.due("what was heard does not count", x.hearers(1), 0);
        Due.due("round", x.first(1), 24);
    }

    /** 0: now; 60 at most. */
    private static void quiet() {
        for (int loud = 58; loud <= 62; loud++) {
            EarTrumpets x = Due.house("m2,1;b0,1,1,0;b1,0,1,0;");
            Due.due("now", x.quiet(), 0);
            x.speak(0, 0, loud);
            Due.due("by " + loud, x.quiet(), loud <= 60 ? loud : Due.NONE);
            x.breathe(1);
            Due.due("by " + loud + ", a breath on", x.quiet(), loud <= 61 ? loud - 1 : Due.NONE);
        }
        EarTrumpets x = Due.house("m2,0;b0,1,1,0;b1,0,1,0;");
        x.speak(0, 0, 1);
        Due.due("never", x.quiet(), Due.NONE);
        x.tap(1, 0);
        Due.due("one", x.quiet(), 1);
        x.tap(0, 0);
        Due.due("it is in yet", x.quiet(), 1);
        x.breathe(1);
        Due.due("now", x.quiet(), 0);
        // What was HEARD at HORN 0 is in no PIPE any more.
        EarTrumpets heard = Due.house("m2,0;b1,0,1,0;");
        heard.speak(1, 9, 99);
        heard.breathe(1);
        Due.due("heard, and now quiet", heard.quiet(), 0);
    }

    // ---- SHUT, OPEN

    private static void shutInBreaths() {
        EarTrumpets x = ring();
        for (int h = 0; h < 6; h++) {
            int due = h == 0 ? RING_BREATHS : 4 * h;
            Due.due("not in " + (due - 1), x.shuts(0, 1 << h, due - 1, 0), 0);
            Due.due("not in " + (due - 1), x.shuts(0, 1 << h, due - 1, 1), 0);
            Due.due("in " + due, x.shuts(0, 1 << h, due, 0), 1);
            Due.due("in " + due, x.shuts(0, 1 << h, due, 1), 1);
            Due.due("in 30", x.shuts(0, 1 << h, 30, 0), 1);
        }
        Due.due("all of them", x.shuts(0, 63, 30, 1), 1);
        Due.due("none of them", x.shuts(0, 0, 30, 0), 0);
        Due.due("none of them", x.shuts(0, 0, 30, 1), 0);
        // A sound on its way: the tap behind it is to be shut, those ahead of it are of no use.
        x.speak(3, 1, 9);
        Due.due("it comes to 4", x.shuts(0, 16, 3, 0), 0);
        Due.due("it comes to 4", x.shuts(0, 16, 4, 0), Due.NONE);
        Due.due("it comes to 4", x.shuts(0, 16, 4, 1), Due.NONE);
        Due.due("but not to 5", x.shuts(0, 32, 8, 1), 16);
        Due.due("nor to 5 or 1", x.shuts(0, 34, 30, 1), 17);
    }

    /** From no tap to seven; of several the least. */
    private static void shutTaps() {
        EarTrumpets x = Due.house("m2,0;" + "b0,1,1,0;".repeat(7));
        Due.due("seven", x.shuts(0, 2, 1, 0), 7);
        Due.due("seven", x.shuts(0, 2, 1, 1), 127);
        Due.due("from the other one", x.shuts(1, 3, 30, 0), 0);
        x.tap(3, 0);
        Due.due("open ones only", x.shuts(0, 2, 1, 0), 6);
        Due.due("open ones only", x.shuts(0, 2, 1, 1), 127 - 8);
        EarTrumpets line = Due.house("m6,0;b4,5,1,0;b3,4,1,0;b2,3,1,0;b1,2,1,0;b0,1,1,0;");
        Due.due("any of five, the least", line.shuts(0, 32, 30, 1), 1);
        line.speak(4, 1, 9);
        Due.due("it is in the least", line.shuts(0, 32, 30, 1), Due.NONE);
        line.breathe(1);
        Due.due("any of five, the least", line.shuts(0, 32, 30, 1), 1);
        // The SPEECH comes behind the taps: PIPE 0, shut, does not take it.
        EarTrumpets one = Due.house("m2,0;b0,1,1,0;");
        Due.due("behind that", one.shuts(0, 2, 1, 0), 1);
        one.tap(0, 0);
        Due.due("none is open", one.shuts(0, 2, 30, 0), 0);
        // Two by their own do not do, two others together do: bits 1 and 2 are less than 0 and 3.
        EarTrumpets two = Due.house("m4,0;b2,3,1,0;b0,1,1,0;b0,2,1,0;b1,3,1,0;");
        Due.due("two", two.shuts(0, 8, 30, 0), 2);
        Due.due("the least of several", two.shuts(0, 8, 30, 1), 3);
    }

    private static void openInBreaths() {
        EarTrumpets x = ring();
        x.tap(0, 0);
        for (int h = 0; h < 6; h++) {
            int due = h == 0 ? RING_BREATHS : 4 * h;
            Due.due("not in " + (due - 1), x.opens(0, h, due - 1, 0), Due.NONE);
            Due.due("not in " + (due - 1), x.opens(0, h, due - 1, 1), Due.NONE);
            Due.due("in " + due, x.opens(0, h, due, 0), 1);
            Due.due("in " + due, x.opens(0, h, due, 1), 1);
            Due.due("in 30", x.opens(0, h, 30, 1), 1);
        }
    }

    /** From no tap to six, the most that a way can have. */
    private static void openTaps() {
        EarTrumpets x = Due.house("m6,0;b0,1,1,0;b1,2,1,0;b2,3,1,0;b3,4,1,0;b4,5,1,0;b5,0,1,0;b0,1,1,0;");
        Due.due("open already", x.opens(0, 0, 6, 0), 0);
        Due.due("open already, but too few breaths", x.opens(0, 0, 5, 0), Due.NONE);
        for (int p = 0; p < 7; p++) {
            x.tap(p, 0);
        }
        Due.due("six", x.opens(0, 0, 6, 0), 6);
        Due.due("the least of several", x.opens(0, 0, 6, 1), 63);
        Due.due("five", x.opens(0, 5, 5, 0), 5);
        Due.due("five", x.opens(0, 5, 5, 1), 31);
        Due.due("too few breaths", x.opens(0, 5, 4, 0), Due.NONE);
        Due.due("one", x.opens(4, 5, 1, 1), 16);
        x.tap(6, 1);
        Due.due("one is open", x.opens(0, 5, 5, 1), 30);
        // HEARD without any SPEECH: what is on its way is enough.
        x.speak(0, 1, 9);
        x.tap(6, 0);
        Due.due("none", x.opens(3, 1, 1, 0), 0);
        Due.due("none", x.opens(3, 1, 1, 1), 0);
        EarTrumpets faint = Due.house("m4,9;n0,1,1,9;n1,2,1,9;n2,3,1,4;");
        faint.tap(0, 0);
        Due.due("by 50 just heard", faint.opens(0, 3, 30, 1), 1);
        faint.dent(2, 5);
        Due.due("by 50 not heard", faint.opens(0, 3, 30, 1), Due.NONE);
    }

    // ---- LOUD, SAY, ROUND, WAY

    private static void loudInBreaths() {
        EarTrumpets x = ring();
        for (int h = 0; h < 6; h++) {
            int due = h == 0 ? RING_BREATHS : 4 * h;
            Due.due("not in " + (due - 1), x.loud(0, h, due - 1), Due.NONE);
            Due.due("in " + due, x.loud(0, h, due), 1);
            Due.due("in 30", x.loud(0, h, 30), 1);
        }
        x.speak(0, 1, 50);
        Due.due("HEARD without it", x.loud(0, 1, 4), 1);
        Due.due("not in 3", x.loud(0, 1, 3), Due.NONE);
    }

    /** 1 to 99: the least of all, the most of all, one more than that. */
    private static void loudness() {
        String[] texts = {"m2,0;b0,1,1,0;", "m2,1;b0,1,1,0;", "m2,9;b0,1,1,0;", "m2,9;n0,1,1,9;", "m2,9;l0,1,1,9;",
            "m2,9;o0,1,1,9;"};
        int[] due = {1, 2, 10, 19, 2, 2};
        for (int i = 0; i < texts.length; i++) {
            Due.due("loud, " + texts[i], Due.house(texts[i]).loud(0, 1, 1), due[i]);
        }
        // Six narrow ones take 8 and 9 each but the last, that takes the rest up to 98, 99.
        EarTrumpets x = Due.house("m6,8;n0,1,1,9;n1,2,1,9;n2,3,1,9;n3,4,1,9;n4,5,1,9;n5,0,1,4;");
        for (int dent = 4; dent < 8; dent++) {
            x.dent(5, dent);
            Due.due("loud, dent " + dent, x.loud(0, 0, 6), dent < 6 ? 94 + dent : Due.NONE);
        }
        // A louder sound in the first place lets nothing in that is not louder.
        EarTrumpets full = Due.house("m3,0;b0,1,1,0;b0,2,4,0;n1,2,1,9;");
        full.speak(0, 1, 9);
        Due.due("HEARD by what is in", full.loud(0, 2, 30), 1);
        Due.due("in 2", full.loud(0, 2, 2), 10);
        full.speak(0, 1, 20);
        Due.due("in 2, HEARD without it", full.loud(0, 2, 2), 1);
    }

    private static void sayInBreaths() {
        // HORN 1 HEARS in the BREATHS 2, 6, .., 30 the WORD 1, 2, .., 8 more.
        EarTrumpets x = Due.house("m2,0;d0,1,2,1;b1,0,2,0;");
        int set = 0;
        for (int n = 1; n <= 30; n++) {
            if (n % 4 == 2) {
                set |= 1 << 10 - (n + 2) / 4;
            }
            Due.due("say 0 in " + n, x.say(0, 1, 0, n), set);
        }
        Due.due("all but two", set, 1020);
        Due.due("all", Due.house("m2,0;d0,1,1,1;b1,0,1,0;").say(0, 1, 0, 19), 1023);
        Due.due("all but 0", Due.house("m2,0;d0,1,1,1;b1,0,1,0;").say(0, 1, 0, 18), 1022);
        for (int word = 0; word < 10; word++) {
            Due.due("by a dent of 9", Due.house("m2,0;d0,1,1,9;").say(0, 1, word, 1), 1 << (word + 1) % 10);
            Due.due("by itself", Due.house("m2,0;b0,1,1,9;").say(0, 1, word, 1), 1 << word);
        }
        Due.due("no way", x.say(1, 1, 0, 1), 0);
    }

    private static void sayLoudBy60() {
        EarTrumpets faint = Due.house("m5,9;n0,1,1,9;n1,2,1,9;n2,3,1,9;n3,4,1,0;");
        faint.dent(2, 8);
        faint.dent(1, 6);
        Due.due("60 less 18, 15, 17, 9", faint.say(0, 4, 3, 4), 1 << 3);
        faint.dent(3, 1);
        Due.due("60 less 60", faint.say(0, 4, 3, 4), 0);
        for (int loud = 59; loud <= 61; loud++) {
            EarTrumpets x = Due.house("m2,0;b0,1,1,0;");
            x.speak(0, 5, loud);
            Due.due("another, on one by " + loud, x.say(0, 1, 3, 1), loud < 60 ? 1 << 3 : 0);
            Due.due("the same, on one by " + loud, x.say(0, 1, 5, 1), loud < 60 ? 1 << 5 : 1023);
        }
    }

    private static void round() {
        Due.due("24", ring().round(0), RING_BREATHS);
        Due.due("2", Due.house("m2,0;b0,1,1,0;b1,0,1,0;").round(1), 2);
        Due.due("no way back", Due.house("m2,0;b0,1,1,0;").round(0), Due.NONE);
        EarTrumpets x = ring();
        x.speak(5, 1, 99);
        x.breathe(3);
        Due.due("with nothing in pipes", x.round(0), RING_BREATHS);
        x.tap(5, 0);
        Due.due("shut", x.round(0), Due.NONE);
        // Five narrow ones: 90 less 18 four times leaves 18.
        EarTrumpets faint = Due.house("m5,9;n0,1,1,9;n1,2,1,9;n2,3,1,9;n3,4,1,9;n4,0,1,8;");
        Due.due("by 1", faint.round(0), 5);
        faint.dent(4, 9);
        Due.due("by 0", faint.round(0), Due.NONE);
    }

    private static void way() {
        EarTrumpets x = ring();
        for (int h = 0; h < 6; h++) {
            for (int other = 0; other < 6; other++) {
                Due.due("way " + h + ", " + other, x.way(h, other), (other - h + 6) % 6);
            }
        }
        x.tap(5, 0);
        Due.due("shut", x.way(1, 0), Due.NONE);
        Due.due("alike", x.way(1, 1), 0);
        Due.due("five", x.way(0, 5), 5);
        // By LOUDNESS it would not be HEARD; the way is there.
        Due.due("not heard", Due.house("m2,9;n0,1,4,9;").way(0, 1), 1);
    }

    // ---- what fits

    private static void who() {
        EarTrumpets x = Due.house("m3,0;b0,1,1,0;b0,2,1,0;");
        Due.lay(x, 0, -1, -1, -1, -1, -1, -1, -1, -1, -1, -1, -1, -1);
        Due.due("all kinds", x.who(0, 0, 1, 0, 0, 12), 62);
        Due.due("all dents", x.who(0, 1, 1, 0, 0, 12), 1023);
        Due.due("both taps", x.who(0, 2, 1, 0, 0, 12), 3);
        Due.lay(x, 0, 0);
        Due.due("no kind", x.who(0, 0, 1, 0, 0, 1), 0);
        Due.due("no dent", x.who(0, 1, 1, 0, 0, 1), 0);
        Due.due("no tap", x.who(0, 2, 1, 0, 0, 1), 0);
        int[] sounds = {1, 2, 3};
        int[] kinds = {1 << 1 | 1 << 2 | 1 << 3, 62, 62};
        for (int i = 0; i < sounds.length; i++) {
            x.hush();
            x.speak(0, 0, sounds[i]);
            Due.due("kinds by which " + sounds[i] + " is heard", x.who(0, 0, 1, 0, 0, 1), kinds[i]);
        }
        // The DENT of a narrow one is just too much, or just not.
        EarTrumpets narrow = Due.house("m2,0;n0,1,1,0;");
        narrow.speak(0, 3, 9);
        Due.lay(narrow, 0, 3);
        Due.due("heard up to 8", narrow.who(0, 1, 1, 0, 0, 1), 511);
        Due.lay(narrow, 0, -1);
        Due.due("not by 9", narrow.who(0, 1, 1, 0, 0, 1), 512);
        for (int word = 0; word < 10; word++) {
            EarTrumpets old = Due.house("m2,0;o0,1,1,0;");
            old.speak(0, 7, 9);
            Due.lay(old, 0, word);
            Due.due("dent to " + word, old.who(0, 1, 1, 0, 0, 1), 1 << (word + 3) % 10);
        }
    }

    /** A WORD, or less 1; n 1 to 12; from i on, to the end of the ROW. */
    private static void rowsOfTold() {
        EarTrumpets x = Due.house("m3,0;b0,1,1,0;b1,0,1,0;");
        x.speak(0, 9, 99);
        x.row(0, 0, 40);
        for (int i = 0; i < 12; i++) {
            x.set(0, 28 + i, i % 2 == 0 ? 9 : -1);
        }
        for (int n = 1; n <= 12; n++) {
            Due.due("all fits, n " + n, x.who(0, 2, 1, 0, 28, n), n < 3 ? 3 : 2);
        }
        Due.due("n 0", x.who(0, 2, 1, 0, 28, 0), Due.BAD);
        Due.due("n 13", x.who(0, 2, 1, 0, 27, 13), Due.BAD);
        Due.due("beyond the end", x.who(0, 2, 1, 0, 29, 12), Due.PLACE);
        Due.due("to the end", x.who(0, 2, 1, 0, 39, 1), 0);
        Due.due("behind the end", x.who(0, 2, 1, 0, 40, 1), Due.PLACE);
        Due.due("at i -1", x.who(0, 2, 1, 0, -1, 1), Due.PLACE);
        x.set(0, 39, 0);
        Due.due("the 12th is another", x.who(0, 2, 1, 0, 28, 12), 0);
        Due.due("the first 11 fit", x.who(0, 2, 1, 0, 28, 11), 2);
        Due.due("spoke, the 12th is another", x.spoke(1, 9, 0, 28, 12), 0);
        Due.due("spoke, the first 11 fit", x.spoke(1, 9, 0, 28, 11), 64 + 1 + 4);
        EarTrumpets y = Due.house("m2,0;b0,1,1,0;");
        for (int item : new int[] {-3, -2, 10, 11, 99, 1000, Integer.MAX_VALUE, Integer.MIN_VALUE}) {
            Due.lay(y, 0, item);
            Due.due("never heard: " + item, y.who(0, 2, 1, 0, 0, 1), 0);
            Due.due("never heard: " + item, y.spoke(1, 0, 0, 0, 1), 0);
        }
        y.speak(0, 0, 50);
        Due.lay(y, 0, 0);
        Due.due("word 0", y.who(0, 2, 1, 0, 0, 1), 3);
        Due.lay(y, 0, -1);
        Due.due("not nothing", y.who(0, 2, 1, 0, 0, 1), 0);
    }

    private static void spoke() {
        EarTrumpets x = Due.house("m6,0;b0,1,1,0;");
        Due.lay(x, 0, -1);
        Due.due("all six, and without", x.spoke(0, 3, 0, 0, 1), 64 + 63);
        Due.due("all but 0", x.spoke(1, 3, 0, 0, 1), 64 + 62);
        Due.lay(x, 0, 3);
        Due.due("none", x.spoke(0, 3, 0, 0, 1), 0);
        Due.due("at 0 alone", x.spoke(1, 3, 0, 0, 1), 1);
        Due.due("by another word", x.spoke(1, 4, 0, 0, 1), 0);
        x.tap(0, 0);
        Due.due("shut", x.spoke(1, 3, 0, 0, 1), 0);
        for (int loud = 59; loud <= 61; loud++) {
            EarTrumpets y = Due.house("m2,0;b0,1,1,0;");
            y.speak(0, 5, loud);
            Due.lay(y, 0, 5);
            Due.due("on one by " + loud, y.spoke(1, 3, 0, 0, 1), loud < 60 ? 64 + 2 : 64 + 3);
        }
        EarTrumpets faint = Due.house("m5,9;n0,1,1,9;n1,2,1,6;n2,3,1,8;n3,4,1,0;");
        Due.lay(faint, 0, -1, -1, -1, 3);
        Due.due("60 less 59", faint.spoke(4, 3, 0, 0, 4), 1);
        faint.dent(3, 1);
        Due.due("60 less 60", faint.spoke(4, 3, 0, 0, 4), 0);
    }

    // ---- COLD, STUCK, SITTINGS

    private static void cold() {
        EarTrumpets x = Due.house("m6,0;b0,1,4,0;b1,2,4,0;b2,3,4,0;b3,4,4,0;b4,5,4,0;b5,0,4,0;b5,4,1,0;");
        Due.due("all", x.cold(1), 127);
        Due.due("all", x.cold(60), 127);
        x.speak(0, 1, 9);
        for (int p = 1; p < 6; p++) {
            Due.due("just cold, " + p, x.cold(4 * p - 1) >> p & 1, 1);
            Due.due("just not, " + p, x.cold(4 * p) >> p & 1, 0);
        }
        Due.due("what is in now", x.cold(1), 126);
        Due.due("none", x.cold(60), 0);
        Due.due("none", x.cold(20), 0);
        Due.due("two", x.cold(19), 96);
        x.breathe(3);
        Due.due("in the last place now", x.cold(1) & 1, 0);
        x.breathe(1);
        Due.due("gone, comes round in 20", x.cold(19) & 1, 1);
        Due.due("gone, comes round in 20", x.cold(20) & 1, 0);
    }

    private static void fraction(String what, EarTrumpets x, int horn, int n, int p, long above, long below) {
        Due.due(what + ", above", x.stuck(horn, n, p, 0), above);
        Due.due(what + ", below", x.stuck(horn, n, p, 1), below);
    }

    /** Lowest terms; 0 is 0 by 1; p 0 to 10. */
    private static void stuck() {
        EarTrumpets x = Due.house("m3,0;b0,1,1,0;b1,2,1,0;");
        for (int p = 0; p <= 10; p++) {
            fraction("nobody spoke", x, 2, 30, p, 0, 1);
        }
        x.speak(0, 1, 9);
        int[] above = {1, 9, 4, 7, 3, 1, 2, 3, 1, 1, 0};
        int[] below = {1, 10, 5, 10, 5, 2, 5, 10, 5, 10, 1};
        for (int p = 0; p <= 10; p++) {
            fraction("one tap, p " + p, x, 2, 2, p, above[p], below[p]);
            fraction("too few breaths, p " + p, x, 2, 1, p, 0, 1);
            fraction("it is in, p " + p, x, 1, 1, p, 1, 1);
        }
        x.tap(1, 0);
        fraction("a tap that is shut stays shut", x, 2, 30, 0, 0, 1);
        x.tap(0, 0);
        fraction("no tap is open, it is in", x, 1, 30, 5, 1, 1);
        fraction("no tap is open", x, 2, 30, 5, 0, 1);
        EarTrumpets ring = ring();
        ring.speak(0, 1, 9);
        long[] nine = {1, 9, 81, 729, 6561, 59049};
        long[] ten = {1, 10, 100, 1000, 10000, 100000};
        for (int h = 1; h <= 6; h++) {
            int n = 4 * h;
            fraction("just so, " + h, ring, h % 6, n, 1, nine[h - 1], ten[h - 1]);
            fraction("just not, " + h, ring, h % 6, n - 1, 1, 0, 1);
            fraction("in 30, " + h, ring, h % 6, 30, 9, 1, ten[h - 1]);
        }
        // Seven taps from 0, each of which lets it through: it is not HEARD if all are shut.
        EarTrumpets seven = Due.house("m3,0;b2,0,1,0;b0,1,1,0;b0,1,1,0;b0,1,1,0;b0,1,1,0;b0,1,1,0;b0,1,1,0;");
        seven.speak(2, 1, 9);
        fraction("six side by side", seven, 1, 2, 1, 999999, 1000000);
        fraction("six side by side", seven, 1, 2, 9, 1000000 - 531441, 1000000);
        fraction("six side by side", seven, 1, 2, 5, 63, 64);
    }

    /** n 0 to 60, SEEDS 1 to 999999, against the same SITTINGS held in truth. */
    private static void drawn() {
        String[] texts = {"m2,0;b0,1,1,0;", "m3,1;b0,1,1,0;b1,2,2,0;o2,0,3,7;", Calls.text(6, 7)};
        for (String text : texts) {
            for (int seed : new int[] {1, 2, 3, 12345, 999998, 999999}) {
                for (int n : new int[] {0, 1, 2, 59, 60}) {
                    EarTrumpets x = Due.house(text);
                    x.speak(0, 8, 70);
                    int often = x.drawn(n, seed, 0);
                    int many = x.drawn(n, seed, 1);
                    Due.due("often, " + text + " " + n + " " + seed, often, held(x, n, seed));
                    Due.due("many, " + text + " " + n + " " + seed, many, x.count(5));
                }
            }
        }
    }

    private static int held(EarTrumpets y, int n, int seed) {
        long x = seed;
        int heard = 0;
        for (int i = 0; i < n; i++) {
            x = x * 16807 % 2147483647L;
            if (x % 3 == 0) {
                y.speak((int) (x % y.count(1)), (int) (x % 10), 40);
            }
            heard += Integer.bitCount(y.breathe(1));
        }
        return heard;
    }

    // ---- IMAGES, KINDS, ASKS

    private static void images() {
        EarTrumpets x = ring();
        Due.due("none of 0", x.restore(0), Due.STATE);
        Due.due("none of 1", x.restore(1), Due.STATE);
        Due.due("kept", x.image(1), 1);
        Due.due("none of 0 yet", x.restore(0), Due.STATE);
        x.speak(0, 1, 9);
        x.breathe(3);
        Due.due("kept", x.image(0), 1);
        Due.due("acts stay", x.count(6), 4);
        Due.due("as 1 kept it", x.restore(1), 1);
        Due.due("breath", x.count(3), 0);
        Due.due("sounds", x.count(5), 0);
        Due.due("no act", x.undo(), Due.STATE);
        Due.due("as 0 kept it", x.restore(0), 1);
        Due.due("breath", x.count(3), 3);
        Due.due("sounds", x.inside(0, 3), 109);
        x.breathe(1);
        Due.due("an image stays as it was", x.restore(0), 1);
        Due.due("breath", x.count(3), 3);
        Due.read(x, "m2,0;b0,1,1,0;");
        Due.due("behind another house", x.restore(0), 1);
        Due.due("horns", x.count(1), 6);
        Due.due("pipes", x.count(2), 6);
        Due.due("horn 5", x.horn(5, 3), 32);
        Due.due("pipe 6", x.pipe(6, 0), Due.BAD);
    }

    /** KINDS 0 to 5: each PIPE as each of them. */
    private static void kinds() {
        EarTrumpets x = Due.house("m2,0;b0,1,1,0;d0,1,1,0;n0,1,1,0;l0,1,1,0;o0,1,1,0;b0,1,1,0;o0,1,1,0;");
        int[] kinds = {1, 2, 3, 4, 5, 1, 5};
        int[] is = {3, 7, 11, 17, 49, 3, 49};
        for (int p = 0; p < 7; p++) {
            Due.due("kind of " + p, x.kind(p), kinds[p]);
            for (int k = 0; k <= 5; k++) {
                boolean so = (is[p] >> k & 1) == 1;
                Due.due(p + " as " + k, x.as(p, k), so ? p : Due.KIND);
                Due.due("status", x.status(), so ? 0 : 3);
            }
        }
    }

    private static void asks() {
        // The last PIPE of each KIND, with the most that LENGTH and DENT can be.
        EarTrumpets x = Due.house("m2,0;b0,1,1,0;b0,1,1,0;b0,1,4,9;d0,1,4,9;n0,1,4,9;l0,1,4,9;o0,1,4,9;");
        int[] size = {0, 1, 2, 3, 4, 5, 6};
        int[] sizes = {1 + 0, 1 + 1, 4 + 11, -(4 + 24), 4 + 13 - 1000, -96, -192};
        int[] marks = {0, 1, 11, 24, 13 - 1000, 5 + 96, 6 + 192};
        int[] steps = {4, 4, 4, 6, 5, 2, 3};
        int[] markSteps = {2, 2, 2, 3, 3, 4, 5};
        for (int p : size) {
            Due.due("size of " + p, x.ask(p, 0), sizes[p]);
            traced(x, steps[p]);
            Due.due("mark of " + p, x.ask(p, 1), marks[p]);
            traced(x, markSteps[p]);
        }
        Due.due("an ask leaves status", x.status(), 0);
        Due.due("an ask is no act", x.count(6), 0);
    }

    /** So many numbers are in THE TRACE, of 16 at most. */
    private static void traced(EarTrumpets x, int steps) {
        for (int i = -1; i <= 17; i++) {
            boolean is = i >= 0 && i < steps;
            Due.due("trace " + i + " of " + steps, x.trace(i) == Due.NONE ? 0 : 1, is ? 1 : 0);
        }
    }

    /** Promise 40: each FINDING, and each call with a ROW, or as(), that has none. */
    private static void status() {
        EarTrumpets x = Due.house("m2,0;b0,1,1,0;");
        x.row(0, 0, 3);
        x.row(1, 1, 3);
        long[] found = {x.set(2, 0, 0), x.set(0, 3, 0), x.as(0, 2), x.row(0, 0, -1), x.copy(0, 0, 1, 0, 1)};
        for (int i = 0; i < found.length; i++) {
            Due.due("number of a finding", found[i], -1000011 - i);
        }
        for (int i = 0; i < 9; i++) {
            Due.due("found", x.drop(5), Due.NULL);
            Due.due("status", x.status(), 1);
            Due.due("status again", x.status(), 1);
            boolean clears = clearing(x, i);
            Due.due("behind " + i, x.status(), clears ? 0 : 1);
            x.row(0, 0, 3);
        }
    }

    private static boolean clearing(EarTrumpets x, int i) {
        switch (i) {
            case 0:
                return x.row(3, 0, 0) == 0;
            case 1:
                return x.set(0, 2, 5) == 5;
            case 2:
                return x.copy(0, 3, 0, 3, 0) == 0;
            case 3:
                return x.drop(0) == 3;
            case 4:
                return x.who(0, 0, 0, 0, 2, 1) == 0;
            case 5:
                return x.spoke(0, 0, 0, 2, 1) == 0;
            case 6:
                return x.as(0, 0) == 0;
            case 7:
                x.feed('m');
                x.house();
                x.undo();
                x.hush();
                x.ask(0, 0);
                return false;
            default:
                x.row(0, 3, 0);
                x.set(8, 0, 0);
                x.copy(-1, 0, 0, 0, 0);
                x.drop(8);
                x.who(0, 0, 0, 0, 0, 13);
                x.spoke(0, 10, 0, 0, 1);
                x.as(0, 6);
                return false;
        }
    }
}

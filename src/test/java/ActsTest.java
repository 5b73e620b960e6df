/** Promises 9 to 17: what is done, what is undone, and what is seen of PIPES and HORNS. */
public final class ActsTest {
    public static void main(String[] args) {
        kindsOfPipes();
        breathe();
        loudestCounts();
        speak();
        tap();
        dent();
        hush();
        undo();
        oldestActsAreForgotten();
        pipe();
        inside();
        horn();
        Due.end();
    }

    /** What COMES OUT at HORN 1 of a PIPE from 0 to 1, LENGTH 1: 100 times the WORD, and LOUD; NONE. */
    private static int comesOut(String sort, int loss, int dent, int word, int loud) {
        EarTrumpets x = Due.house("m2," + loss + ";" + sort + "0,1,1," + dent + ";");
        x.speak(0, word, loud);
        int horns = x.breathe(1);
        if (horns == 0) {
            Due.due("word of nothing", x.horn(1, 0), Due.NONE);
            return Due.NONE;
        }
        Due.due("horns", horns, 2);
        return 100 * x.horn(1, 0) + x.horn(1, 1);
    }

    private static void kindsOfPipes() {
        Due.due("brass", comesOut("b", 4, 7, 8, 50), 846);
        Due.due("brass, no loss", comesOut("b", 0, 7, 8, 50), 850);
        Due.due("brass, just heard", comesOut("b", 9, 9, 8, 10), 801);
        Due.due("brass, by 0", comesOut("b", 9, 9, 8, 9), Due.NONE);
        Due.due("brass, below 0", comesOut("b", 9, 9, 8, 1), Due.NONE);
        Due.due("dented", comesOut("d", 4, 7, 8, 50), 546);
        Due.due("dented, by 0", comesOut("d", 4, 7, 8, 4), Due.NONE);
        Due.due("narrow", comesOut("n", 4, 7, 8, 50), 839);
        Due.due("narrow, just heard", comesOut("n", 9, 9, 8, 19), 801);
        Due.due("narrow, by 0", comesOut("n", 9, 9, 8, 18), Due.NONE);
        Due.due("leaky", comesOut("l", 9, 7, 8, 51), 825);
        Due.due("leaky, by 0", comesOut("l", 0, 0, 8, 1), Due.NONE);
        Due.due("leaky, just heard", comesOut("l", 9, 9, 8, 2), 801);
        Due.due("old", comesOut("o", 9, 7, 8, 51), 525);
        Due.due("old, by 0", comesOut("o", 0, 7, 8, 1), Due.NONE);
        Due.due("old, dent 2", comesOut("o", 9, 2, 8, 99), 49);
    }

    private static void breathe() {
        EarTrumpets none = new EarTrumpets();
        Due.due("no house", none.breathe(0), Due.STATE);
        EarTrumpets x = Due.house("m3,0;b0,1,1,0;b1,2,3,0;");
        Due.due("no breath", x.breathe(0), Due.BAD);
        Due.due("25 breaths", x.breathe(25), Due.BAD);
        Due.due("less than none", x.breathe(-1), Due.BAD);
        x.speak(0, 5, 20);
        Due.due("one hears", x.breathe(1), 2);
        Due.due("on the way", x.breathe(2), 0);
        Due.due("the last one counts", x.breathe(1), 4);
        Due.due("nobody", x.breathe(1), 0);
        Due.due("breath", x.count(3), 5);
        for (int i = 0; i < 41; i++) {
            x.breathe(24);
        }
        Due.due("breath", x.count(3), 989);
        String before = Due.look(x);
        Due.due("above 999", x.breathe(11), Due.FULL);
        Due.due("BAD ahead of FULL", x.breathe(25), Due.BAD);
        Due.same("what is refused changes nothing", Due.look(x), before);
        Due.due("to 999", x.breathe(10), 0);
        Due.due("breath", x.count(3), 999);
        Due.due("above 999", x.breathe(1), Due.FULL);
        x.undo();
        Due.due("breath undone", x.breathe(1), 0);
    }

    private static void loudestCounts() {
        // Three PIPES come together at 3; the loudest goes on, of two alike the first PIPE's.
        EarTrumpets x = Due.house("m5,1;b0,3,1,0;b1,3,1,0;b2,3,1,0;b3,4,1,0;");
        x.speak(0, 1, 30);
        x.speak(1, 2, 40);
        x.speak(2, 3, 40);
        Due.due("one horn hears", x.breathe(1), 8);
        Due.due("of two alike the first", x.horn(3, 0), 2);
        Due.due("loudest", x.horn(3, 1), 39);
        Due.due("goes on", x.inside(3, 0), 239);
        x.speak(2, 3, 41);
        x.speak(0, 1, 30);
        Due.due("two hear", x.breathe(1), 24);
        Due.due("a later one, louder", x.horn(3, 0), 3);
        Due.due("behind", x.horn(4, 0), 2);
    }

    private static void speak() {
        EarTrumpets x = Due.house("m3,0;b0,1,2,0;b0,2,1,0;b1,0,1,0;");
        Due.due("two pipes", x.speak(0, 4, 50), 2);
        Due.due("as loud", x.speak(0, 5, 50), 0);
        Due.due("stays", x.inside(0, 0), 450);
        Due.due("less loud", x.speak(0, 5, 49), 0);
        Due.due("louder", x.speak(0, 5, 51), 2);
        Due.due("is another", x.inside(1, 0), 551);
        Due.due("nothing from there", x.speak(2, 0, 99), 0);
        x.tap(1, 0);
        Due.due("one is shut", x.speak(0, 6, 60), 1);
        Due.due("shut", x.inside(1, 0), 551);
        x.breathe(1);
        Due.due("a place on", x.inside(0, 1), 660);
        Due.due("empty anew", x.speak(0, 7, 1), 1);
        Due.due("both", x.pipe(0, 5), 2);
        Due.due("acts", x.count(6), 9);
        Due.due("horn 3", x.speak(3, 0, 1), Due.BAD);
        Due.due("horn -1", x.speak(-1, 0, 1), Due.BAD);
        Due.due("word 10", x.speak(0, 10, 1), Due.BAD);
        Due.due("word -1", x.speak(0, -1, 1), Due.BAD);
        Due.due("loud 0", x.speak(0, 0, 0), Due.BAD);
        Due.due("loud 100", x.speak(0, 0, 100), Due.BAD);
        Due.due("no act by that", x.count(6), 9);
        Due.due("no house", new EarTrumpets().speak(0, 0, 1), Due.BAD);
    }

    private static void tap() {
        EarTrumpets x = Due.house("m3,0;b0,1,1,0;b1,2,2,0;b0,2,1,0;");
        x.speak(1, 3, 30);
        Due.due("shut", x.tap(1, 0), 5);
        Due.due("it is so", x.tap(1, 0), Due.STATE);
        Due.due("it is so", x.tap(0, 1), Due.STATE);
        Due.due("no act by that", x.count(6), 2);
        Due.due("pipe 3", x.tap(3, 0), Due.BAD);
        Due.due("pipe -1", x.tap(-1, 0), Due.BAD);
        Due.due("on 2", x.tap(0, 2), Due.BAD);
        Due.due("on -1", x.tap(0, -1), Due.BAD);
        x.speak(0, 8, 40);
        Due.due("into a shut one nothing goes", x.breathe(1), 6);
        Due.due("nothing", x.inside(1, 0), Due.NONE);
        Due.due("what is in it goes on", x.inside(1, 1), 330);
        Due.due("comes out", x.breathe(1), 4);
        Due.due("opened", x.tap(1, 1), 7);
        Due.due("no house", new EarTrumpets().tap(0, 1), Due.BAD);
    }

    private static void dent() {
        EarTrumpets other = Due.house("m2,0;d0,1,2,3;o1,0,1,6;");
        Due.due("what it was", other.dent(1, 2), 6);
        Due.due("the other one stays", other.pipe(0, 3), 3);
        Due.due("another", other.pipe(1, 3), 2);
        EarTrumpets x = Due.house("m2,0;d0,1,2,3;");
        x.speak(0, 1, 20);
        x.breathe(1);
        Due.due("what it was", x.dent(0, 9), 3);
        Due.due("what it was", x.dent(0, 4), 9);
        Due.due("each is an act", x.count(6), 4);
        x.breathe(1);
        Due.due("as it is when the word comes out", x.horn(1, 0), 5);
        Due.due("dent 10", x.dent(0, 10), Due.BAD);
        Due.due("dent -1", x.dent(0, -1), Due.BAD);
        Due.due("pipe 1", x.dent(1, 0), Due.BAD);
        Due.due("pipe -1", x.dent(-1, 0), Due.BAD);
        Due.due("it stays", x.pipe(0, 3), 4);
        Due.due("no house", new EarTrumpets().dent(0, 0), Due.BAD);
    }

    private static void hush() {
        EarTrumpets x = Due.house("m3,0;b0,1,2,0;b0,2,1,0;b2,0,4,0;");
        x.speak(0, 4, 50);
        x.breathe(1);
        x.speak(0, 4, 50);
        Due.due("sounds", x.hush(), 4);
        Due.due("none then", x.count(5), 0);
        Due.due("taps stay", x.count(4), 7);
        Due.due("what was heard stays", x.horn(2, 0), 4);
        Due.due("breath stays", x.count(3), 1);
        Due.due("nobody hears", x.breathe(1), 0);
        Due.due("none there were", x.hush(), 0);
        Due.due("acts", x.count(6), 6);
        x.undo();
        x.undo();
        x.undo();
        Due.due("undone", x.count(5), 4);
    }

    private static void undo() {
        EarTrumpets x = Due.house("m3,1;d0,1,1,4;b1,2,2,0;o2,0,3,1;");
        String[] before = new String[7];
        before[0] = Due.look(x);
        x.speak(0, 5, 60);
        before[1] = Due.look(x);
        x.breathe(1);
        before[2] = Due.look(x);
        x.dent(0, 8);
        before[3] = Due.look(x);
        x.tap(1, 0);
        before[4] = Due.look(x);
        x.hush();
        before[5] = Due.look(x);
        x.breathe(1);
        before[6] = Due.look(x);
        x.tap(1, 1);
        for (int left = 6; left >= 0; left--) {
            Due.due("undo", x.undo(), left);
            Due.same("undone to " + left, Due.look(x), before[left]);
        }
        Due.due("none is left", x.undo(), Due.STATE);
        Due.same("nothing changes", Due.look(x), before[0]);
        x.breathe(3);
        Due.due("a breath each", x.undo(), 2);
        Due.due("a breath each", x.count(3), 2);
        x.speak(0, 1, 1);
        Due.due("another act behind one undone", x.count(6), 3);
    }

    private static void oldestActsAreForgotten() {
        EarTrumpets x = Due.house("m2,0;d0,1,1,0;");
        for (int i = 0; i < 30; i++) {
            x.dent(0, (i + 1) % 10);
        }
        Due.due("24 at most", x.count(6), 24);
        for (int left = 23; left >= 0; left--) {
            Due.due("undo", x.undo(), left);
            Due.due("dent", x.pipe(0, 3), (left + 6) % 10);
        }
        Due.due("the older ones are forgotten", x.undo(), Due.STATE);
        x.breathe(24);
        x.breathe(24);
        Due.due("24 at most", x.count(6), 24);
        for (int i = 0; i < 24; i++) {
            x.undo();
        }
        Due.due("breath", x.count(3), 24);
    }

    private static void pipe() {
        EarTrumpets x = Due.house("m4,0;b0,1,1,0;n3,2,4,7;");
        int[] due = {3, 2, 4, 7, 1, 0};
        for (int what = 0; what < 6; what++) {
            Due.due("pipe 1, " + what, x.pipe(1, what), due[what]);
        }
        x.speak(3, 1, 1);
        x.breathe(1);
        x.speak(3, 1, 1);
        x.tap(1, 0);
        Due.due("shut", x.pipe(1, 4), 0);
        Due.due("sounds", x.pipe(1, 5), 2);
        Due.due("what 6", x.pipe(0, 6), Due.BAD);
        Due.due("what -1", x.pipe(0, -1), Due.BAD);
        Due.due("pipe 2", x.pipe(2, 0), Due.BAD);
        Due.due("pipe -1", x.pipe(-1, 0), Due.BAD);
        Due.due("no house", new EarTrumpets().pipe(0, 0), Due.BAD);
    }

    private static void inside() {
        EarTrumpets x = Due.house("m2,0;b0,1,3,0;l1,0,1,0;");
        x.speak(0, 9, 99);
        Due.due("first", x.inside(0, 0), 999);
        x.breathe(1);
        Due.due("empty then", x.inside(0, 0), Due.NONE);
        Due.due("second", x.inside(0, 1), 999);
        x.speak(0, 0, 1);
        Due.due("word 0", x.inside(0, 0), 1);
        x.breathe(1);
        Due.due("third", x.inside(0, 2), 999);
        Due.due("no such place", x.inside(0, 3), Due.BAD);
        Due.due("no such place", x.inside(1, 1), Due.BAD);
        Due.due("place -1", x.inside(0, -1), Due.BAD);
        Due.due("pipe 2", x.inside(2, 0), Due.BAD);
        Due.due("pipe -1", x.inside(-1, 0), Due.BAD);
        Due.due("no house", new EarTrumpets().inside(0, 0), Due.BAD);
    }

    private static void horn() {
        EarTrumpets x = Due.house("m3,1;b0,1,1,0;b1,2,1,0;b0,2,4,0;b2,0,1,0;");
        Due.due("no word yet", x.horn(1, 0), Due.NONE);
        Due.due("by 0", x.horn(1, 1), 0);
        Due.due("in no breath", x.horn(1, 2), Due.NONE);
        Due.due("from 0", x.horn(0, 3), 5);
        Due.due("to 2", x.horn(2, 4), 6);
        x.tap(2, 0);
        Due.due("from 0, one shut", x.horn(0, 3), 5);
        Due.due("to 2, one shut", x.horn(2, 4), 6);
        x.breathe(3);
        x.speak(0, 7, 5);
        x.breathe(1);
        Due.due("word", x.horn(1, 0), 7);
        Due.due("loud", x.horn(1, 1), 4);
        Due.due("the number ahead of it", x.horn(1, 2), 3);
        x.breathe(1);
        Due.due("heard last", x.horn(1, 2), 3);
        Due.due("one on", x.horn(2, 2), 4);
        Due.due("what 5", x.horn(0, 5), Due.BAD);
        Due.due("what -1", x.horn(0, -1), Due.BAD);
        Due.due("horn 3", x.horn(3, 0), Due.BAD);
        Due.due("horn -1", x.horn(-1, 0), Due.BAD);
        Due.due("no house", new EarTrumpets().horn(0, 0), Due.BAD);
    }
}

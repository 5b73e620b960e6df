/** Promises 28 and 29: what fits what was HEARD, told in a ROW. */
public final class FittingTest {
    public static void main(String[] args) {
        kinds();
        dents();
        taps();
        whoRefused();
        spoke();
        spokeRefused();
        Due.end();
    }

    private static void kinds() {
        EarTrumpets x = Due.house("m2,2;b0,1,1,3;");
        x.speak(0, 4, 50);
        Due.lay(x, 0, 4, -1);
        Due.due("brass, narrow, leaky", x.who(0, 0, 1, 0, 0, 2), 1 << 1 | 1 << 3 | 1 << 4);
        Due.lay(x, 0, 9, 7, 9);
        Due.due("dented, old", x.who(0, 0, 1, 0, 1, 1), 1 << 2 | 1 << 5);
        Due.lay(x, 0, -1);
        Due.due("none", x.who(0, 0, 1, 0, 0, 1), 0);
        EarTrumpets faint = Due.house("m2,2;o0,1,1,3;");
        faint.speak(0, 4, 4);
        Due.lay(faint, 0, -1);
        Due.due("narrow", faint.who(0, 0, 1, 0, 0, 1), 1 << 3);
        faint.hush();
        faint.speak(0, 4, 2);
        Due.due("all but leaky, old", faint.who(0, 0, 1, 0, 0, 1), 1 << 1 | 1 << 2 | 1 << 3);
        Due.due("its kind stays", faint.kind(0), 5);
        EarTrumpets two = Due.house("m3,0;b0,1,1,3;b1,2,1,3;");
        two.speak(0, 4, 50);
        Due.lay(two, 0, -1, 7);
        Due.due("the second one", two.who(1, 0, 2, 0, 0, 2), 1 << 2 | 1 << 5);
        Due.due("the first one", two.who(0, 0, 2, 0, 0, 2), 1 << 2 | 1 << 5);
    }

    private static void dents() {
        EarTrumpets x = Due.house("m3,0;d0,1,1,3;n1,2,1,0;");
        x.speak(0, 4, 6);
        Due.lay(x, 0, 2);
        Due.due("8", x.who(0, 1, 1, 0, 0, 1), 1 << 8);
        Due.lay(x, 0, -1, 7);
        Due.due("below 6", x.who(1, 1, 2, 0, 0, 2), 63);
        Due.lay(x, 0, -1, -1, -1);
        Due.due("6 on", x.who(1, 1, 2, 0, 0, 3), 1023 - 63);
        Due.lay(x, 0, 10);
        Due.due("no such word", x.who(0, 1, 1, 0, 0, 1), 0);
        Due.lay(x, 0, -2);
        Due.due("no such word", x.who(0, 1, 2, 0, 0, 1), 0);
        Due.due("its dent stays", x.pipe(0, 3), 3);
    }

    private static void taps() {
        EarTrumpets x = Due.house("m3,0;b0,1,1,0;b1,2,1,0;");
        x.speak(0, 4, 6);
        Due.lay(x, 0, -1, 4, -1, -1, -1, -1, -1, -1, -1, -1, -1, -1);
        Due.due("open", x.who(1, 2, 2, 0, 0, 12), 2);
        Due.due("shut", x.who(1, 2, 2, 0, 2, 10), 1);
        Due.due("both", x.who(1, 2, 2, 0, 0, 1), 3);
        Due.due("what is in it goes on", x.who(0, 2, 2, 0, 0, 2), 3);
        x.tap(1, 0);
        Due.due("open", x.who(1, 2, 2, 0, 0, 12), 2);
        Due.due("shut", x.who(1, 2, 2, 0, 2, 10), 1);
        Due.due("its tap stays", x.count(4), 1);
    }

    private static void whoRefused() {
        EarTrumpets x = Due.house("m2,2;b0,1,1,3;");
        x.row(0, 0, 12);
        Due.due("pipe 1", x.who(1, 0, 0, 0, 0, 1), Due.BAD);
        Due.due("pipe -1", x.who(-1, 0, 0, 0, 0, 1), Due.BAD);
        Due.due("which 3", x.who(0, 3, 0, 0, 0, 1), Due.BAD);
        Due.due("which -1", x.who(0, -1, 0, 0, 0, 1), Due.BAD);
        Due.due("horn 2", x.who(0, 0, 2, 0, 0, 1), Due.BAD);
        Due.due("horn -1", x.who(0, 0, -1, 0, 0, 1), Due.BAD);
        Due.due("row 8", x.who(0, 0, 0, 8, 0, 1), Due.BAD);
        Due.due("row -1", x.who(0, 0, 0, -1, 0, 1), Due.BAD);
        Due.due("n 0", x.who(0, 0, 0, 0, 0, 0), Due.BAD);
        Due.due("n 13", x.who(0, 0, 0, 0, 0, 13), Due.BAD);
        Due.due("BAD ahead of NULL", x.who(0, 0, 0, 1, 0, 13), Due.BAD);
        Due.due("missing", x.who(0, 0, 0, 1, 0, 1), Due.NULL);
        Due.due("NULL ahead of PLACE", x.who(0, 0, 0, 1, -1, 1), Due.NULL);
        Due.due("i -1", x.who(0, 0, 0, 0, -1, 1), Due.PLACE);
        Due.due("beyond the end", x.who(0, 0, 0, 0, 1, 12), Due.PLACE);
        Due.due("beyond the end", x.who(0, 0, 0, 0, 12, 1), Due.PLACE);
        Due.due("sum wraps around", x.who(0, 0, 0, 0, Integer.MAX_VALUE, 12), Due.PLACE);
        Due.due("no house", new EarTrumpets().who(0, 0, 0, 0, 0, 1), Due.BAD);
    }

    private static void spoke() {
        EarTrumpets x = Due.house("m4,1;b0,1,1,0;b2,1,2,0;d3,1,1,5;");
        Due.lay(x, 0, -1, 7);
        Due.due("at 2", x.spoke(1, 7, 0, 0, 2), 1 << 2);
        Due.lay(x, 0, 7, -1);
        Due.due("at 0", x.spoke(1, 7, 0, 0, 2), 1 << 0);
        Due.due("at 3", x.spoke(1, 2, 0, 0, 1), 1 << 3);
        Due.lay(x, 0, -1, -1);
        Due.due("at 1, or nobody", x.spoke(1, 7, 0, 0, 2), 64 + 2);
        Due.due("in one breath", x.spoke(1, 7, 0, 0, 1), 64 + 2 + 4);
        x.speak(0, 3, 60);
        Due.lay(x, 0, 3);
        Due.due("as loud in there stays", x.spoke(1, 8, 0, 0, 1), 64 + 15);
        x.hush();
        x.speak(0, 3, 59);
        Due.due("60 is louder", x.spoke(1, 7, 0, 0, 1), 64 + 2 + 4);
        Due.lay(x, 0, 2);
        Due.due("without one it is not so", x.spoke(1, 7, 0, 0, 1), 8);
    }

    private static void spokeRefused() {
        EarTrumpets x = Due.house("m2,2;b0,1,1,3;");
        x.row(0, 1, 12);
        Due.due("horn 2", x.spoke(2, 0, 0, 0, 1), Due.BAD);
        Due.due("horn -1", x.spoke(-1, 0, 0, 0, 1), Due.BAD);
        Due.due("word 10", x.spoke(0, 10, 0, 0, 1), Due.BAD);
        Due.due("word -1", x.spoke(0, -1, 0, 0, 1), Due.BAD);
        Due.due("row 8", x.spoke(0, 0, 8, 0, 1), Due.BAD);
        Due.due("row -1", x.spoke(0, 0, -1, 0, 1), Due.BAD);
        Due.due("n 0", x.spoke(0, 0, 0, 0, 0), Due.BAD);
        Due.due("n 13", x.spoke(0, 0, 0, 0, 13), Due.BAD);
        Due.due("BAD ahead of NULL", x.spoke(0, 0, 1, 0, 13), Due.BAD);
        Due.due("missing", x.spoke(0, 0, 1, 0, 1), Due.NULL);
        Due.due("NULL ahead of PLACE", x.spoke(0, 0, 1, -1, 1), Due.NULL);
        Due.due("i -1", x.spoke(0, 0, 0, -1, 1), Due.PLACE);
        Due.due("beyond the end", x.spoke(0, 0, 0, 1, 12), Due.PLACE);
        Due.due("sum wraps around", x.spoke(0, 0, 0, Integer.MAX_VALUE, 12), Due.PLACE);
        Due.due("no house", new EarTrumpets().spoke(0, 0, 0, 0, 1), Due.BAD);
    }
}

/** Promises 1 to 5, and 40 for the calls with a ROW. */
public final class RowsTest {
    public static void main(String[] args) {
        newObject();
        row();
        set();
        copy();
        drop();
        status();
        Due.end();
    }

    private static void newObject() {
        EarTrumpets x = new EarTrumpets();
        for (int what = 0; what < 8; what++) {
            Due.due("new: count " + what, x.count(what), 0);
        }
        Due.due("new: no house to breathe", x.breathe(1), Due.STATE);
        Due.due("new: no house to hush", x.hush(), Due.STATE);
        Due.due("new: no act", x.undo(), Due.STATE);
        Due.due("new: no fault", x.fault(), 0);
        Due.due("new: no finding", x.status(), 0);
        Due.due("new: no trace", x.trace(0), Due.NONE);
        Due.due("new: no image", x.restore(1), Due.STATE);
        for (int r = 0; r < 8; r++) {
            Due.due("new: row missing", x.set(r, 0, 1), Due.NULL);
        }
    }

    private static void row() {
        EarTrumpets x = new EarTrumpets();
        Due.due("row of 40", x.row(7, 2, 40), 40);
        Due.due("row of 0", x.row(0, 0, 0), 0);
        Due.due("a row of none is there", x.count(0), 2);
        Due.due("row 8", x.row(8, 0, 1), Due.BAD);
        Due.due("row -1", x.row(-1, 0, 1), Due.BAD);
        Due.due("lane 3", x.row(0, 3, 1), Due.BAD);
        Due.due("lane -1", x.row(0, -1, 1), Due.BAD);
        Due.due("41 items", x.row(0, 0, 41), Due.BAD);
        Due.due("very many items", x.row(0, 0, Integer.MAX_VALUE), Due.BAD);
        Due.due("fewer than none", x.row(0, 0, -1), Due.SIZE);
        Due.due("fewest", x.row(7, 0, Integer.MIN_VALUE), Due.SIZE);
        Due.due("BAD ahead of SIZE", x.row(0, 3, -1), Due.BAD);
        Due.due("what is found changes nothing", x.set(7, 39, 5), 5);
        x.set(7, 0, 6);
        Due.due("first", item(x, 7, 0), 6);
        Due.due("last", item(x, 7, 39), 5);
        Due.due("in place of what is there", x.row(7, 1, 40), 40);
        for (int i = 0; i < 40; i++) {
            Due.due("0 at first", item(x, 7, i), 0);
        }
    }

    /** An ITEM that is a WORD, seen by who(): the one that, spoken, is HEARD as the ROW tells. */
    private static int item(EarTrumpets x, int row, int i) {
        Due.read(x, "m2,0;b0,1,1,0;");
        for (int word = 0; word < 10; word++) {
            x.speak(0, word, 9);
            if (x.who(0, 2, 1, row, i, 1) == 3) {
                return word;
            }
            x.hush();
        }
        return Due.NONE;
    }

    private static void set() {
        EarTrumpets x = new EarTrumpets();
        x.row(0, 0, 2);
        x.row(1, 1, 2);
        x.row(2, 2, 2);
        Due.due("byte", x.set(0, 1, 127), 127);
        Due.due("byte cut", x.set(0, 1, 128), -128);
        Due.due("byte cut", x.set(0, 0, 0x12345680), -128);
        Due.due("byte cut", x.set(0, 0, 256), 0);
        Due.due("byte less 1", x.set(0, 0, -1), -1);
        Due.due("short", x.set(1, 0, 32767), 32767);
        Due.due("short cut", x.set(1, 0, 32768), -32768);
        Due.due("short cut", x.set(1, 0, 65536 + 7), 7);
        Due.due("int", x.set(2, 0, Integer.MIN_VALUE), Integer.MIN_VALUE);
        Due.due("int", x.set(2, 0, Integer.MAX_VALUE), Integer.MAX_VALUE);
        Due.due("row 8", x.set(8, 0, 0), Due.BAD);
        Due.due("row -1", x.set(-1, 0, 0), Due.BAD);
        Due.due("missing", x.set(3, 0, 0), Due.NULL);
        Due.due("NULL ahead of PLACE", x.set(3, -1, 0), Due.NULL);
        Due.due("place 2 of 2", x.set(0, 2, 0), Due.PLACE);
        Due.due("place -1", x.set(0, -1, 0), Due.PLACE);
        Due.due("place far away", x.set(0, Integer.MAX_VALUE, 0), Due.PLACE);
        Due.due("place far away", x.set(0, Integer.MIN_VALUE, 0), Due.PLACE);
    }

    private static void copy() {
        EarTrumpets x = new EarTrumpets();
        Due.lay(x, 0, 1, 2, 3, 4, 5);
        Due.lay(x, 1, 0, 0, 0);
        x.row(2, 1, 5);
        Due.due("copy", x.copy(0, 1, 1, 0, 3), 3);
        Due.due("copy none", x.copy(0, 5, 1, 3, 0), 0);
        Due.due("row 8", x.copy(8, 0, 0, 0, 0), Due.BAD);
        Due.due("row -1", x.copy(0, 0, -1, 0, 0), Due.BAD);
        Due.due("missing from", x.copy(3, 0, 0, 0, 0), Due.NULL);
        Due.due("missing to", x.copy(0, 0, 3, 0, 0), Due.NULL);
        Due.due("NULL ahead of PLACE", x.copy(3, -1, 0, 0, 0), Due.NULL);
        Due.due("two lanes", x.copy(0, 0, 2, 0, 1), Due.STORE);
        Due.due("two lanes, none", x.copy(0, 0, 2, 0, 0), Due.STORE);
        Due.due("STORE ahead of PLACE", x.copy(0, -1, 2, 0, 1), Due.STORE);
        Due.due("i below 0", x.copy(0, -1, 1, 0, 1), Due.PLACE);
        Due.due("j below 0", x.copy(0, 0, 1, -1, 1), Due.PLACE);
        Due.due("n below 0", x.copy(0, 0, 1, 0, -1), Due.PLACE);
        Due.due("beyond an end", x.copy(0, 3, 1, 0, 3), Due.PLACE);
        Due.due("beyond an end", x.copy(0, 0, 1, 1, 3), Due.PLACE);
        Due.due("none, beyond an end", x.copy(0, 6, 1, 0, 0), Due.PLACE);
        Due.due("sum wraps around", x.copy(0, 2, 1, 0, Integer.MAX_VALUE), Due.PLACE);
        Due.due("sum wraps around", x.copy(0, Integer.MAX_VALUE, 1, 0, 2), Due.PLACE);
        copiedValues();
        overlap();
    }

    /** What a ROW holds shows by who(): the WORD 3 is HEARD in the 2nd BREATH of three. */
    private static void copiedValues() {
        EarTrumpets x = Due.house("m2,0;b0,1,2,0;");
        x.speak(0, 3, 50);
        Due.lay(x, 0, 9, -1, 3, -1, 9);
        Due.lay(x, 1, 0, 0, 0);
        Due.due("ahead of copy", x.who(0, 2, 1, 1, 0, 3), 0);
        x.copy(0, 1, 1, 0, 3);
        Due.due("behind copy", x.who(0, 2, 1, 1, 0, 3), 3);
        Due.due("the source stays", x.who(0, 2, 1, 0, 1, 3), 3);
    }

    private static void overlap() {
        EarTrumpets x = Due.house("m2,0;b0,1,1,0;");
        x.speak(0, 1, 50);
        // A copy item by item from the left would give -1 at each place behind.
        Due.lay(x, 0, 1, -1, -1, 7);
        Due.due("copy within a row", x.copy(0, 0, 0, 1, 3), 3);
        Due.due("as they were ahead", x.who(0, 2, 1, 0, 1, 3), 3);
        Due.lay(x, 0, 7, 1, -1, -1);
        Due.due("copy within a row, back", x.copy(0, 1, 0, 0, 3), 3);
        Due.due("as they were ahead", x.who(0, 2, 1, 0, 0, 3), 3);
    }

    private static void drop() {
        EarTrumpets x = new EarTrumpets();
        x.row(4, 1, 9);
        Due.due("drop", x.drop(4), 9);
        Due.due("missing then", x.drop(4), Due.NULL);
        Due.due("missing then", x.set(4, 0, 0), Due.NULL);
        Due.due("none is left", x.count(0), 0);
        Due.due("row 8", x.drop(8), Due.BAD);
        Due.due("row -1", x.drop(-1), Due.BAD);
        x.row(4, 1, 0);
        Due.due("drop one of none", x.drop(4), 0);
    }

    private static void status() {
        EarTrumpets x = Due.house("m2,0;b0,1,1,0;");
        x.row(0, 0, -1);
        Due.due("SIZE", x.status(), 4);
        x.row(9, 0, 1);
        Due.due("BAD leaves it", x.status(), 4);
        x.count(0);
        x.first(0);
        x.undo();
        Due.due("calls without a row leave it", x.status(), 4);
        x.drop(0);
        Due.due("NULL", x.status(), 1);
        x.row(0, 0, 1);
        Due.due("none", x.status(), 0);
        x.set(0, 1, 1);
        Due.due("PLACE", x.status(), 2);
        x.row(1, 1, 1);
        Due.due("none by row", x.status(), 0);
        x.copy(0, 0, 1, 0, 1);
        Due.due("STORE", x.status(), 5);
        x.set(0, 0, 1);
        Due.due("none by set", x.status(), 0);
        x.who(0, 0, 0, 2, 0, 1);
        Due.due("NULL by who", x.status(), 1);
        x.who(0, 0, 0, 2, 0, 13);
        Due.due("BAD who leaves it", x.status(), 1);
        x.who(0, 0, 0, 0, 0, 1);
        Due.due("none by who", x.status(), 0);
        x.spoke(0, 0, 0, 1, 1);
        Due.due("PLACE by spoke", x.status(), 2);
        x.spoke(0, 0, 0, 0, 1);
        Due.due("none by spoke", x.status(), 0);
        x.as(0, 5);
        Due.due("KIND by as", x.status(), 3);
        x.as(1, 5);
        Due.due("BAD as leaves it", x.status(), 3);
        x.copy(0, 0, 0, 0, 1);
        Due.due("none by copy", x.status(), 0);
        x.as(0, 4);
        x.drop(0);
        Due.due("none by drop", x.status(), 0);
    }
}

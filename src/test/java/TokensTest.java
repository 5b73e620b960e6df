/**
 * The bounds of TEXTS: THE TAPE, TOKENS, NUMBERS, what may stand where, and the FAULTS, of several
 * the first TOKEN's, of one TOKEN the least. Each byte of a text is also each other one, one more,
 * or gone, and what is read then is what Model reads.
 */
public final class TokensTest {
    private static final String ONE = "b0,1,1,0;";
    private static final String LONG = "b00,01,01,00;";

    public static void main(String[] args) {
        tape();
        letterOfLaw();
        sorts();
        signs();
        figures();
        horns();
        loss();
        fromAndTo();
        length();
        dent();
        pipes();
        endOfText();
        firstTokenCounts();
        leastFaultCounts();
        farthestPlaces();
        readHouseIsNew();
        eachByteIsAnother();
        Due.end();
    }

    private static void reads(String text, int pipes) {
        EarTrumpets x = new EarTrumpets();
        Due.due("house of " + text, Due.read(x, text), pipes);
        Due.due("fault of " + text, x.fault(), 0);
        Due.due("bytes behind " + text, x.count(7), 0);
        Due.due("pipes of " + text, x.count(2), pipes);
        Due.due("taps of " + text, x.count(4), (1 << pipes) - 1);
    }

    private static void faulty(String text, int place, int fault) {
        EarTrumpets x = new EarTrumpets();
        Due.due("house of " + text, Due.read(x, text), -1000100 - place);
        Due.due("fault of " + text, x.fault(), fault);
        Due.due("bytes behind " + text, x.count(7), 0);
        Due.due("no house by " + text, x.breathe(1), Due.STATE);
    }

    /** As many bytes as the tape has room for, and one more. */
    private static void tape() {
        EarTrumpets x = new EarTrumpets();
        for (int i = 1; i <= 120; i++) {
            Due.due("feed " + i, x.feed(i % 2 == 0 ? 255 : 0), i);
            Due.due("bytes", x.count(7), i);
        }
        Due.due("feed 121", x.feed('m'), Due.FULL);
        Due.due("BAD ahead of FULL", x.feed(-1), Due.BAD);
        Due.due("BAD ahead of FULL", x.feed(256), Due.BAD);
        Due.due("bytes", x.count(7), 120);
        Due.due("read", x.house(), -1000100);
        Due.due("bytes", x.count(7), 0);
        Due.due("room anew", x.feed('m'), 1);
        Due.due("a good text on it", Due.read(x, "2,0;" + ONE), 1);
        Due.due("fault stays", x.fault(), 1);
        // What was FULL is not on the tape: its first 98 bytes are a whole text.
        String most = "m02,00;" + LONG.repeat(7);
        Due.due("the longest text", most.length(), 98);
        reads(most, 7);
        faulty(most + "x".repeat(22), 98, 1);
        faulty(most + "x".repeat(30), 98, 1);
    }

    private static void letterOfLaw() {
        for (int c = 0; c < 256; c++) {
            if (c != 'm') {
                faulty((char) c + "2,0;" + ONE, 0, 1);
            }
        }
        reads("m2,0;" + ONE, 1);
    }

    /** b, d, n, l and o; m, that begins the law, and all other letters are none. */
    private static void sorts() {
        for (int c = 0; c < 256; c++) {
            String text = "m2,0;" + (char) c + "0,1,1,0;";
            int kind = 1 + "bdnlo".indexOf(c);
            if (kind > 0) {
                reads(text, 1);
                Due.due("kind of " + text, Due.house(text).kind(0), kind);
            } else {
                faulty(text, 5, 1);
            }
        }
    }

    private static void signs() {
        String text = "m2,0;b0,1,1,0;";
        for (int at : new int[] {2, 4, 7, 9, 11, 13}) {
            for (int c = 0; c < 256; c++) {
                boolean figure = c >= '0' && c <= '9';
                String other = text.substring(0, at) + (char) c + text.substring(at + 1);
                // A figure there makes a longer NUMBER of those beside it, looked at in figures().
                if (c != text.charAt(at) && !figure) {
                    faulty(other, at, 1);
                }
            }
        }
    }

    /** NUMBERS have 2 figures at most; a run of three is none, at its first. */
    private static void figures() {
        String[] parts = {"m", "2", ",", "0", ";b", "0", ",", "1", ",", "1", ",", "0", ";"};
        for (int at = 1; at < parts.length; at += 2) {
            String ahead = String.join("", java.util.Arrays.copyOf(parts, at));
            String behind = String.join("", java.util.Arrays.copyOfRange(parts, at + 1, parts.length));
            reads(ahead + parts[at] + behind, 1);
            reads(ahead + "0" + parts[at] + behind, 1);
            faulty(ahead + "00" + parts[at] + behind, ahead.length(), 1);
            faulty(ahead + "000" + parts[at] + behind, ahead.length(), 1);
            faulty(ahead + "99" + behind, ahead.length(), 2);
            faulty(ahead + "999" + behind, ahead.length(), 1);
            faulty(ahead + "99999999999999999999" + behind, ahead.length(), 1);
            faulty(ahead + behind, ahead.length(), 1);
            // These would be 0, 1, 2 and 3 if they wrapped around.
            for (String wrapped : new String[] {"4294967296", "4294967297", "4294967298", "18446744073709551619"}) {
                faulty(ahead + wrapped + behind, ahead.length(), 1);
            }
            for (int c : new int[] {'/', ':', ' ', '-', '+', 'a', 'z', '`', '{', 'A', 0, 255, 0xb2}) {
                faulty(ahead + (char) c + behind, ahead.length(), 1);
                faulty(ahead + (char) c + parts[at] + behind, ahead.length(), 1);
                faulty(ahead + parts[at] + (char) c + behind, ahead.length() + 1, 1);
            }
        }
    }

    private static void horns() {
        for (int horns = 0; horns < 100; horns++) {
            for (String figures : ways(horns)) {
                String text = "m" + figures + ",0;" + ONE;
                if (horns >= 2 && horns <= 6) {
                    reads(text, 1);
                    Due.due("horns of " + text, Due.house(text).count(1), horns);
                } else {
                    faulty(text, 1, 2);
                }
            }
        }
    }

    /** A NUMBER in one figure, if it has but one, and in two. */
    private static String[] ways(int number) {
        return number > 9 ? new String[] {"" + number} : new String[] {"" + number, "0" + number};
    }

    private static void loss() {
        for (int loss = 0; loss < 100; loss++) {
            for (String figures : ways(loss)) {
                String text = "m2," + figures + ";" + ONE;
                if (loss <= 9) {
                    reads(text, 1);
                    EarTrumpets x = Due.house(text);
                    x.speak(0, 1, 50);
                    Due.due("loss of " + text, x.ahead(1, 1, 1), 50 - loss);
                } else {
                    faulty(text, 3, 2);
                }
            }
        }
    }

    /** HORNS there are, that are not the same. */
    private static void fromAndTo() {
        for (int horns = 2; horns <= 6; horns++) {
            for (int from = 0; from <= 7; from++) {
                for (int to = 0; to <= 7; to++) {
                    String text = "m" + horns + ",0;b" + from + "," + to + ",1,0;";
                    if (from >= horns) {
                        faulty(text, 6, 2);
                    } else if (to >= horns || to == from) {
                        faulty(text, 8, 2);
                    } else {
                        reads(text, 1);
                        Due.due("from of " + text, Due.house(text).pipe(0, 0), from);
                        Due.due("to of " + text, Due.house(text).pipe(0, 1), to);
                    }
                }
            }
        }
        faulty("m2,0;b0,00,1,0;", 8, 2);
        faulty("m2,0;b01,1,1,0;", 9, 2);
    }

    private static void length() {
        for (int length = 0; length < 100; length++) {
            for (String figures : ways(length)) {
                String text = "m2,0;b0,1," + figures + ",0;";
                if (length >= 1 && length <= 4) {
                    reads(text, 1);
                    Due.due("length of " + text, Due.house(text).pipe(0, 2), length);
                } else {
                    faulty(text, 10, 2);
                }
            }
        }
    }

    private static void dent() {
        for (int dent = 0; dent < 100; dent++) {
            for (String figures : ways(dent)) {
                String text = "m2,0;b0,1,1," + figures + ";";
                if (dent <= 9) {
                    reads(text, 1);
                    Due.due("dent of " + text, Due.house(text).pipe(0, 3), dent);
                } else {
                    faulty(text, 12, 2);
                }
            }
        }
    }

    /** One at least, 7 at most. */
    private static void pipes() {
        faulty("m2,0;", 5, 1);
        for (int pipes = 1; pipes <= 7; pipes++) {
            reads("m2,0;" + ONE.repeat(pipes), pipes);
        }
        for (int pipes = 8; pipes <= 12; pipes++) {
            faulty("m2,0;" + ONE.repeat(pipes), 68, 3);
        }
        for (String sort : new String[] {"b", "d", "n", "l", "o"}) {
            faulty("m2,0;" + ONE.repeat(7) + sort, 68, 3);
            faulty("m2,0;" + ONE.repeat(7) + sort + "9,9,9,99;", 68, 3);
            faulty("m2,0;" + ONE.repeat(7) + sort + "\u0000", 68, 3);
        }
    }

    /** The end where a TOKEN is due: as many as there are bytes. */
    private static void endOfText() {
        String text = "m02,00;" + LONG.repeat(7);
        for (int size = 0; size <= text.length(); size++) {
            String part = text.substring(0, size);
            if (size > 7 && (size - 7) % 13 == 0) {
                reads(part, (size - 7) / 13);
            } else {
                // Of a HORN told by 0 and 1 the first figure alone is 0, the HORN at the other end.
                boolean same = size > 7 && (size - 7) % 13 == 5;
                faulty(part, same ? size - 1 : size == 2 ? 1 : lengthCut(size) ? size - 1 : size,
                        same || size == 2 || lengthCut(size) ? 2 : 1);
            }
        }
    }

    /** The text ends behind the 0 of a LENGTH 01. */
    private static boolean lengthCut(int size) {
        return size > 7 && (size - 7) % 13 == 8;
    }

    private static void firstTokenCounts() {
        faulty("m1,10;b0,0,0,10;", 1, 2);
        faulty("m2,10;b0,0,0,10;", 3, 2);
        faulty("m2,0;b2,0,0,10;", 6, 2);
        faulty("m2,0;b0,0,0,10;", 8, 2);
        faulty("m2,0;b0,1,0,10;", 10, 2);
        faulty("m2,0;b0,1,1,10;", 12, 2);
        faulty("m2,0;b0,1,1,10", 12, 2);
        faulty("m7,0;q", 1, 2);
        faulty("m7", 1, 2);
        faulty("m7x", 1, 2);
        faulty("mx7", 1, 1);
        faulty("m2,0;q9,9,9,99;", 5, 1);
        faulty("m2,0;" + ONE.repeat(6) + "b0,0,1,0;" + ONE, 62, 2);
        faulty("m2,0;" + ONE.repeat(6) + "x0,1,1,0;" + ONE, 59, 1);
        faulty("m2,0;" + ONE.repeat(7) + "b0,0,1,0;", 68, 3);
    }

    /** 1 ahead of 2: a NUMBER that is not as told where none can stand, a run of three; 1 ahead of 3. */
    private static void leastFaultCounts() {
        faulty("99", 0, 1);
        faulty("m2,0;99", 5, 1);
        faulty("m777,0;", 1, 1);
        faulty("m2,100;", 3, 1);
        faulty("m2 99", 2, 1);
        faulty("m2,0;" + ONE.repeat(7) + "m", 68, 1);
        faulty("m2,0;" + ONE.repeat(7) + "9", 68, 1);
        faulty("m2,0;" + ONE.repeat(7) + ";", 68, 1);
        faulty("m2,0;" + ONE.repeat(7) + "B", 68, 1);
        faulty("m2,0;" + ONE.repeat(7) + "\u0000", 68, 1);
    }

    /** No FAULT has a place beyond 98, behind the longest text that is whole. */
    private static void farthestPlaces() {
        String most = "m02,00;" + LONG.repeat(7);
        faulty(most.substring(0, 97), 97, 1);
        faulty(most.substring(0, 95) + "10;", 95, 2);
        faulty(most + "b", 98, 3);
        faulty(most + "a", 98, 1);
        faulty(most + LONG, 98, 3);
        faulty(most + "b".repeat(22), 98, 3);
    }

    /** BREATH 0, all taps open, nothing in PIPES, nobody HEARD anything, no ACT; ROWS and IMAGES stay. */
    private static void readHouseIsNew() {
        EarTrumpets x = Due.house("m3,0;b0,1,1,0;b1,2,1,0;");
        x.row(4, 1, 6);
        x.speak(0, 1, 50);
        x.breathe(2);
        x.speak(0, 1, 50);
        x.tap(1, 0);
        x.dent(0, 7);
        x.image(1);
        String text = "m3,0;b0,1,1,0;b1,2,1,0;";
        Due.due("the same text", Due.read(x, text), 2);
        int[] due = {1, 3, 2, 0, 3, 0, 0, 0};
        for (int what = 0; what < 8; what++) {
            Due.due("new house: count " + what, x.count(what), due[what]);
        }
        Due.due("no act", x.undo(), Due.STATE);
        for (int h = 0; h < 3; h++) {
            Due.due("word", x.horn(h, 0), Due.NONE);
            Due.due("loud", x.horn(h, 1), 0);
            Due.due("breath", x.horn(h, 2), Due.NONE);
        }
        Due.due("dent as told", x.pipe(0, 3), 0);
        Due.due("an image stays", x.restore(1), 1);
        Due.due("breath as it was", x.count(3), 2);
        x.drop(4);
        Due.due("smaller", Due.read(x, "m2,9;l1,0,4,9;"), 1);
        EarTrumpets fresh = Due.house("m2,9;l1,0,4,9;");
        Due.same("nothing is left of the larger one", Due.look(x), Due.look(fresh));
        Due.due("horn 2", x.horn(2, 0), Due.BAD);
        Due.due("pipe 1", x.pipe(1, 0), Due.BAD);
    }

    /** What is read of a text one byte of which is another, is one more, or is gone, as Model reads it. */
    private static void eachByteIsAnother() {
        String[] texts = {"m3,1;d0,2,4,9;o2,1,1,3;", "m02,00;b00,01,04,09;", "m6,9;" + "n5,4,3,2;".repeat(7)};
        for (String text : texts) {
            for (int at = 0; at <= text.length(); at++) {
                for (int c = 0; c < 256; c++) {
                    asModelReads(text.substring(0, at) + (char) c + text.substring(at));
                    if (at < text.length()) {
                        asModelReads(text.substring(0, at) + (char) c + text.substring(at + 1));
                    }
                }
                asModelReads(text.substring(0, at));
                if (at < text.length()) {
                    asModelReads(text.substring(0, at) + text.substring(at + 1));
                }
            }
        }
    }

    private static void asModelReads(String text) {
        EarTrumpets x = new EarTrumpets();
        Model y = new Model();
        for (int i = 0; i < text.length(); i++) {
            x.feed(text.charAt(i));
            y.feed(text.charAt(i));
        }
        Due.due("house of " + text, x.house(), y.house());
        Due.due("fault of " + text, x.fault(), y.fault());
        for (int what = 1; what < 5; what++) {
            Due.due("count " + what + " of " + text, x.count(what), y.count(what));
        }
        for (int p = 0; p < x.count(2); p++) {
            Due.due("kind in " + text, x.kind(p), y.kind(p));
            for (int what = 0; what < 4; what++) {
                Due.due("pipe " + p + ", " + what + " in " + text, x.pipe(p, what), y.pipe(p, what));
            }
        }
    }
}

/** A parliament of the deaf: horns, a net of brass pipes with taps, and what is heard where and when. */
public final class EarTrumpets {
    public static final int NONE = -1000000, BAD = -1000001, STATE = -1000002, FULL = -1000003;

    private static final int FOUND = -1000010;
    private static final int FAULTY = -1000100;
    private static final int NULL_ROW = 1, NO_PLACE = 2, NOT_THAT_KIND = 3, BELOW_NONE = 4, TWO_LANES = 5;
    private static final int LAST_BREATH = 999;
    private static final int FAR = 60, NEAR = 30, TOLD = 12;

    private final Rows rows = new Rows();
    private final Tape tape = new Tape();
    private final Net net = new Net();
    private final Net draft = new Net();
    private final Acts acts = new Acts();
    private final Foresight foresight = new Foresight();
    private final Bodies bodies = new Bodies();
    private final int[][] images = new int[2][Net.CELLS];
    private int finding = 0;

    public EarTrumpets() {
    }

    // ---- rows

    public int row(int row, int lane, int n) {
        if (!Rows.isRow(row) || !isWithin(lane, 0, 2) || n > Rows.MOST_ITEMS) {
            return BAD;
        }
        if (n < 0) {
            return found(BELOW_NONE);
        }
        rows.lay(row, lane, n);
        return unfound(n);
    }

    public int set(int row, int i, int v) {
        if (!Rows.isRow(row)) {
            return BAD;
        }
        if (rows.isMissing(row)) {
            return found(NULL_ROW);
        }
        if (!rows.hasStretch(row, i, 1)) {
            return found(NO_PLACE);
        }
        return unfound(rows.put(row, i, v));
    }

    public int copy(int a, int i, int b, int j, int n) {
        if (!Rows.isRow(a) || !Rows.isRow(b)) {
            return BAD;
        }
        if (rows.isMissing(a) || rows.isMissing(b)) {
            return found(NULL_ROW);
        }
        if (rows.lanes[a] != rows.lanes[b]) {
            return found(TWO_LANES);
        }
        if (!rows.hasStretch(a, i, n) || !rows.hasStretch(b, j, n)) {
            return found(NO_PLACE);
        }
        System.arraycopy(rows.items[a], i, rows.items[b], j, n);
        return unfound(n);
    }

    public int drop(int row) {
        if (!Rows.isRow(row)) {
            return BAD;
        }
        if (rows.isMissing(row)) {
            return found(NULL_ROW);
        }
        return unfound(rows.takeAway(row));
    }

    // ---- what is told

    public int feed(int letter) {
        if (!isWithin(letter, 0, 255)) {
            return BAD;
        }
        return tape.append(letter) ? tape.size : FULL;
    }

    public int house() {
        boolean whole = tape.readInto(draft);
        tape.size = 0;
        if (!whole) {
            return FAULTY - tape.place;
        }
        net.take(draft.cells);
        acts.forget();
        return net.cells[Net.PIPES];
    }

    public int fault() {
        return tape.fault;
    }

    public int undo() {
        if (acts.kept == 0) {
            return STATE;
        }
        net.take(acts.latest());
        return acts.kept;
    }

    // ---- what is done

    public int breathe(int n) {
        if (!net.stands()) {
            return STATE;
        }
        if (!isWithin(n, 1, Acts.MOST)) {
            return BAD;
        }
        if (net.cells[Net.BREATH] + n > LAST_BREATH) {
            return FULL;
        }
        int heard = 0;
        for (int i = 0; i < n; i++) {
            acts.keep(net.cells);
            heard = net.passBreath();
        }
        return heard;
    }

    public int speak(int horn, int word, int loud) {
        if (!net.isHorn(horn) || !isWithin(word, 0, 9) || !isWithin(loud, 1, 99)) {
            return BAD;
        }
        acts.keep(net.cells);
        return net.letIn(horn, word, loud);
    }

    public int tap(int pipe, int on) {
        if (!net.isPipe(pipe) || !isWithin(on, 0, 1)) {
            return BAD;
        }
        if (net.isOpen(pipe) == (on == 1)) {
            return STATE;
        }
        acts.keep(net.cells);
        net.cells[Net.TAPS] ^= 1 << pipe;
        return net.cells[Net.TAPS];
    }

    public int dent(int pipe, int v) {
        if (!net.isPipe(pipe) || !isWithin(v, 0, 9)) {
            return BAD;
        }
        acts.keep(net.cells);
        int was = net.cells[Net.DENT + pipe];
        net.cells[Net.DENT + pipe] = v;
        return was;
    }

    public int hush() {
        if (!net.stands()) {
            return STATE;
        }
        acts.keep(net.cells);
        int were = net.soundsInAll();
        net.silence();
        return were;
    }

    public int pipe(int pipe, int what) {
        if (!net.isPipe(pipe)) {
            return BAD;
        }
        switch (what) {
            case 0:
                return net.cells[Net.FROM + pipe];
            case 1:
                return net.cells[Net.TO + pipe];
            case 2:
                return net.cells[Net.LENGTH + pipe];
            case 3:
                return net.cells[Net.DENT + pipe];
            case 4:
                return net.isOpen(pipe) ? 1 : 0;
            case 5:
                return net.soundsIn(pipe);
            default:
                return BAD;
        }
    }

    public int inside(int pipe, int place) {
        if (!net.isPipe(pipe) || place < 0 || place >= net.cells[Net.LENGTH + pipe]) {
            return BAD;
        }
        int sound = net.cells[Net.SOUND + pipe * Net.PLACES + place];
        return sound == 0 ? NONE : sound;
    }

    public int horn(int horn, int what) {
        if (!net.isHorn(horn)) {
            return BAD;
        }
        int sound = net.cells[Net.HEARD + horn];
        switch (what) {
            case 0:
                return wordOrNone(sound);
            case 1:
                return Net.loudnessOf(sound);
            case 2:
                return sound == 0 ? NONE : net.cells[Net.WHEN + horn];
            case 3:
                return net.pipesWith(Net.FROM, horn);
            case 4:
                return net.pipesWith(Net.TO, horn);
            default:
                return BAD;
        }
    }

    // ---- foretold

    public int ahead(int horn, int n, int what) {
        if (!net.isHorn(horn) || !isWithin(n, 1, FAR) || !isWithin(what, 0, 1)) {
            return BAD;
        }
        int sound = seen().soundHeard(horn, n);
        if (what == 0) {
            return wordOrNone(sound);
        }
        return sound == 0 ? NONE : Net.loudnessOf(sound);
    }

    public int first(int horn) {
        if (!net.isHorn(horn)) {
            return BAD;
        }
        return seen().firstHearing(horn, FAR);
    }

    public int hearers(int n) {
        if (!net.stands()) {
            return STATE;
        }
        return isWithin(n, 1, FAR) ? seen().hornsThatHear(n) : BAD;
    }

    public int quiet() {
        return net.stands() ? seen().breathsToSilence(FAR) : STATE;
    }

    public int shuts(int h, int horns, int n, int what) {
        if (!net.stands()) {
            return STATE;
        }
        if (!net.isHorn(h) || !isWithin(horns, 0, net.allHorns()) || !isWithin(n, 1, NEAR) || !isWithin(what, 0, 1)) {
            return BAD;
        }
        return sizeOrSet(seen().fewestTurned(net.cells[Net.TAPS], h, horns, n, false), what);
    }

    public int opens(int h, int horn, int n, int what) {
        if (!net.isHorn(h) || !net.isHorn(horn) || !isWithin(n, 1, NEAR) || !isWithin(what, 0, 1)) {
            return BAD;
        }
        int shut = net.allPipes() & ~net.cells[Net.TAPS];
        return sizeOrSet(seen().fewestTurned(shut, h, 1 << horn, n, true), what);
    }

    public int loud(int horn, int other, int n) {
        if (!net.isHorn(horn) || !net.isHorn(other) || !isWithin(n, 1, NEAR)) {
            return BAD;
        }
        return seen().leastLoudness(horn, other, n);
    }

    public int say(int horn, int other, int word, int n) {
        if (!net.isHorn(horn) || !net.isHorn(other) || !isWithin(word, 0, 9) || !isWithin(n, 1, NEAR)) {
            return BAD;
        }
        return seen().wordsToSay(horn, other, word, n);
    }

    public int round(int horn) {
        return net.isHorn(horn) ? seen().breathsRound(horn, FAR) : BAD;
    }

    public int way(int horn, int other) {
        if (!net.isHorn(horn) || !net.isHorn(other)) {
            return BAD;
        }
        return seen().fewestPipes(horn, other);
    }

    public int who(int pipe, int which, int horn, int row, int i, int n) {
        if (!net.isPipe(pipe) || !isWithin(which, 0, 2) || !net.isHorn(horn)
                || !Rows.isRow(row) || !isWithin(n, 1, TOLD)) {
            return BAD;
        }
        if (rows.isMissing(row)) {
            return found(NULL_ROW);
        }
        if (!rows.hasStretch(row, i, n)) {
            return found(NO_PLACE);
        }
        return unfound(seen().whatFits(pipe, which, horn, rows.items[row], i, n));
    }

    public int spoke(int horn, int word, int row, int i, int n) {
        if (!net.isHorn(horn) || !isWithin(word, 0, 9) || !Rows.isRow(row) || !isWithin(n, 1, TOLD)) {
            return BAD;
        }
        if (rows.isMissing(row)) {
            return found(NULL_ROW);
        }
        if (!rows.hasStretch(row, i, n)) {
            return found(NO_PLACE);
        }
        return unfound(seen().hornsSpokenAt(horn, word, rows.items[row], i, n));
    }

    public int cold(int n) {
        if (!net.stands()) {
            return STATE;
        }
        return isWithin(n, 1, FAR) ? seen().coldPipes(n) : BAD;
    }

    public long stuck(int horn, int n, int p, int what) {
        if (!net.isHorn(horn) || !isWithin(n, 1, NEAR) || !isWithin(p, 0, 10) || !isWithin(what, 0, 1)) {
            return BAD;
        }
        return seen().likelihood(horn, n, p, what == 0);
    }

    public int drawn(int n, int seed, int what) {
        if (!net.stands()) {
            return STATE;
        }
        if (!isWithin(n, 0, FAR) || !isWithin(seed, 1, 999999) || !isWithin(what, 0, 1)) {
            return BAD;
        }
        return seen().sitting(n, seed, what == 0);
    }

    public int image(int k) {
        if (!isWithin(k, 0, 1)) {
            return BAD;
        }
        if (!net.stands()) {
            return STATE;
        }
        System.arraycopy(net.cells, 0, images[k], 0, Net.CELLS);
        return 1;
    }

    public int restore(int k) {
        if (!isWithin(k, 0, 1)) {
            return BAD;
        }
        // An image that was never kept is the only one without HORNS.
        if (images[k][Net.HORNS] == 0) {
            return STATE;
        }
        net.take(images[k]);
        acts.forget();
        return 1;
    }

    // ---- asked

    public int kind(int one) {
        return net.isPipe(one) ? net.cells[Net.KIND + one] : BAD;
    }

    public int as(int one, int kind) {
        if (!net.isPipe(one) || !isWithin(kind, 0, Kinds.OLD)) {
            return BAD;
        }
        if (!Kinds.isOne(net.cells[Net.KIND + one], kind)) {
            return found(NOT_THAT_KIND);
        }
        return unfound(one);
    }

    public int ask(int one, int what) {
        if (!net.isPipe(one) || !isWithin(what, 0, 1)) {
            return BAD;
        }
        return bodies.answer(net, one, what);
    }

    public int trace(int i) {
        return i >= 0 && i < bodies.begun ? bodies.steps[i] : NONE;
    }

    public int count(int what) {
        switch (what) {
            case 0:
                return rows.howMany();
            case 1:
                return net.cells[Net.HORNS];
            case 2:
                return net.cells[Net.PIPES];
            case 3:
                return net.cells[Net.BREATH];
            case 4:
                return net.cells[Net.TAPS];
            case 5:
                return net.soundsInAll();
            case 6:
                return acts.kept;
            case 7:
                return tape.size;
            default:
                return BAD;
        }
    }

    public int status() {
        return finding;
    }

    private int found(int number) {
        finding = number;
        return FOUND - number;
    }

    private int unfound(int answer) {
        finding = 0;
        return answer;
    }

    /** The foresight, looking at the HOUSE as it is now. */
    private Foresight seen() {
        foresight.now.take(net.cells);
        return foresight;
    }

    private static boolean isWithin(int v, int least, int most) {
        return v >= least && v <= most;
    }

    private static int wordOrNone(int sound) {
        return sound == 0 ? NONE : Net.wordOf(sound);
    }

    private static int sizeOrSet(int set, int what) {
        return set == NONE || what == 1 ? set : Integer.bitCount(set);
    }

    /** The ROWS; each has its room from the start, so that laying one anew makes no object. */
    private static final class Rows {
        static final int MOST_ROWS = 8, MOST_ITEMS = 40;
        private static final int MISSING = -1;
        private static final int BYTES = 0, SHORTS = 1;

        final int[][] items = new int[MOST_ROWS][MOST_ITEMS];
        final int[] lanes = new int[MOST_ROWS];
        private final int[] sizes = new int[MOST_ROWS];

        Rows() {
            for (int r = 0; r < MOST_ROWS; r++) {
                sizes[r] = MISSING;
            }
        }

        static boolean isRow(int row) {
            return row >= 0 && row < MOST_ROWS;
        }

        boolean isMissing(int row) {
            return sizes[row] == MISSING;
        }

        void lay(int row, int lane, int n) {
            lanes[row] = lane;
            sizes[row] = n;
            for (int i = 0; i < n; i++) {
                items[row][i] = 0;
            }
        }

        /** Written without a sum, which could wrap around. */
        boolean hasStretch(int row, int i, int n) {
            return i >= 0 && n >= 0 && i <= sizes[row] && n <= sizes[row] - i;
        }

        int put(int row, int i, int v) {
            items[row][i] = lanes[row] == BYTES ? (byte) v : lanes[row] == SHORTS ? (short) v : v;
            return items[row][i];
        }

        int takeAway(int row) {
            int had = sizes[row];
            sizes[row] = MISSING;
            return had;
        }

        int howMany() {
            int n = 0;
            for (int r = 0; r < MOST_ROWS; r++) {
                n += isMissing(r) ? 0 : 1;
            }
            return n;
        }
    }

    /** The KINDS of PIPES, each but the first one also the KIND that it is made from. */
    private static final class Kinds {
        static final int PIPE = 0, BRASS = 1, DENTED = 2, NARROW = 3, LEAKY = 4, OLD = 5;
        private static final int[] ABOVE = {PIPE, PIPE, BRASS, BRASS, PIPE, LEAKY};
        private static final int[] LETTERS = {0, 'b', 'd', 'n', 'l', 'o'};

        static boolean isOne(int kind, int wanted) {
            int k = kind;
            for (int i = 0; i <= OLD && k != wanted; i++) {
                k = ABOVE[k];
            }
            return k == wanted;
        }

        /** The KIND that a letter tells; PIPE, which has no letter, if it tells none. */
        static int ofLetter(int letter) {
            for (int k = BRASS; k <= OLD; k++) {
                if (LETTERS[k] == letter) {
                    return k;
                }
            }
            return PIPE;
        }
    }

    /**
     * A HOUSE. All of it stands in one array of cells, so that to keep it, to undo an ACT and to
     * try something is one copy. A sound is 100 times its WORD, and how LOUD it is; 0 is nothing.
     */
    private static final class Net {
        static final int MOST_HORNS = 6, MOST_PIPES = 7, PLACES = 4;
        static final int HORNS = 0, LOSS = 1, PIPES = 2, TAPS = 3, BREATH = 4;
        static final int KIND = 5;
        static final int FROM = KIND + MOST_PIPES;
        static final int TO = FROM + MOST_PIPES;
        static final int LENGTH = TO + MOST_PIPES;
        static final int DENT = LENGTH + MOST_PIPES;
        static final int SOUND = DENT + MOST_PIPES;
        static final int HEARD = SOUND + MOST_PIPES * PLACES;
        static final int WHEN = HEARD + MOST_HORNS;
        static final int CELLS = WHEN + MOST_HORNS;

        final int[] cells = new int[CELLS];
        /** What COMES OUT and counts at each HORN in the latest BREATH. */
        final int[] out = new int[MOST_HORNS];

        static int wordOf(int sound) {
            return sound / 100;
        }

        static int loudnessOf(int sound) {
            return sound % 100;
        }

        static int soundOf(int word, int loud) {
            return 100 * word + loud;
        }

        void take(int[] others) {
            System.arraycopy(others, 0, cells, 0, CELLS);
        }

        void clear() {
            for (int c = 0; c < CELLS; c++) {
                cells[c] = 0;
            }
        }

        boolean stands() {
            return cells[HORNS] > 0;
        }

        boolean isHorn(int horn) {
            return horn >= 0 && horn < cells[HORNS];
        }

        boolean isPipe(int pipe) {
            return pipe >= 0 && pipe < cells[PIPES];
        }

        boolean isOpen(int pipe) {
            return (cells[TAPS] >> pipe & 1) == 1;
        }

        int allHorns() {
            return (1 << cells[HORNS]) - 1;
        }

        int allPipes() {
            return (1 << cells[PIPES]) - 1;
        }

        /** PIPES (bits) that have a HORN at an end: FROM, or TO. */
        int pipesWith(int end, int horn) {
            int set = 0;
            for (int p = 0; p < cells[PIPES]; p++) {
                if (cells[end + p] == horn) {
                    set |= 1 << p;
                }
            }
            return set;
        }

        int soundsIn(int pipe) {
            int n = 0;
            for (int c = SOUND + pipe * PLACES; c < SOUND + (pipe + 1) * PLACES; c++) {
                n += cells[c] == 0 ? 0 : 1;
            }
            return n;
        }

        int soundsInAll() {
            int n = 0;
            for (int p = 0; p < cells[PIPES]; p++) {
                n += soundsIn(p);
            }
            return n;
        }

        boolean isSilent() {
            for (int c = SOUND; c < HEARD; c++) {
                if (cells[c] != 0) {
                    return false;
                }
            }
            return true;
        }

        void silence() {
            for (int c = SOUND; c < HEARD; c++) {
                cells[c] = 0;
            }
        }

        /** A SPEECH: into how many PIPES it goes. */
        int letIn(int horn, int word, int loud) {
            int n = 0;
            for (int p = 0; p < cells[PIPES]; p++) {
                int c = SOUND + p * PLACES;
                if (cells[FROM + p] == horn && isOpen(p) && loudnessOf(cells[c]) < loud) {
                    cells[c] = soundOf(word, loud);
                    n++;
                }
            }
            return n;
        }

        /** A BREATH: HORNS (bits) that HEAR something in it. */
        int passBreath() {
            for (int h = 0; h < MOST_HORNS; h++) {
                out[h] = 0;
            }
            for (int p = 0; p < cells[PIPES]; p++) {
                int sound = comesOut(p, moveOn(p));
                int to = cells[TO + p];
                // Only a louder one takes the place: of several the first PIPE's counts.
                if (loudnessOf(sound) > loudnessOf(out[to])) {
                    out[to] = sound;
                }
            }
            for (int p = 0; p < cells[PIPES]; p++) {
                if (isOpen(p)) {
                    cells[SOUND + p * PLACES] = out[cells[FROM + p]];
                }
            }
            return hearOut();
        }

        private int hearOut() {
            int heard = 0;
            for (int h = 0; h < cells[HORNS]; h++) {
                if (out[h] != 0) {
                    cells[HEARD + h] = out[h];
                    cells[WHEN + h] = cells[BREATH];
                    heard |= 1 << h;
                }
            }
            cells[BREATH]++;
            return heard;
        }

        /** All in a PIPE goes a place on: what goes on from the last one. */
        private int moveOn(int pipe) {
            int first = SOUND + pipe * PLACES;
            int last = first + cells[LENGTH + pipe] - 1;
            int sound = cells[last];
            for (int c = last; c > first; c--) {
                cells[c] = cells[c - 1];
            }
            cells[first] = 0;
            return sound;
        }

        private int comesOut(int pipe, int sound) {
            if (sound == 0) {
                return 0;
            }
            int kind = cells[KIND + pipe];
            int dent = cells[DENT + pipe];
            int word = wordOf(sound);
            int loud = loudnessOf(sound);
            if (kind == Kinds.LEAKY || kind == Kinds.OLD) {
                loud = loud / 2;
            } else {
                loud = loud - cells[LOSS];
            }
            if (kind == Kinds.NARROW) {
                loud = loud - dent;
            }
            if (kind == Kinds.DENTED || kind == Kinds.OLD) {
                word = (word + dent) % 10;
            }
            return loud > 0 ? soundOf(word, loud) : 0;
        }
    }

    /** The ACTS that can be undone, each as the HOUSE was ahead of it. */
    private static final class Acts {
        static final int MOST = 24;

        private final int[][] before = new int[MOST][Net.CELLS];
        private int next = 0;
        int kept = 0;

        void keep(int[] cells) {
            System.arraycopy(cells, 0, before[next], 0, Net.CELLS);
            next = next + 1 < MOST ? next + 1 : 0;
            kept = Math.min(kept + 1, MOST);
        }

        int[] latest() {
            next = next > 0 ? next - 1 : MOST - 1;
            kept = Math.max(kept - 1, 0);
            return before[next];
        }

        void forget() {
            kept = 0;
        }
    }

    /** The tape, and the reader of a HOUSE from it. */
    private static final class Tape {
        private static final int MOST_BYTES = 120;
        private static final int CANNOT_STAND = 1, NOT_AS_TOLD = 2, NO_ROOM = 3;
        private static final int UNREAD = -1;

        private final int[] bytes = new int[MOST_BYTES];
        int size = 0;
        int fault = 0;
        int place = 0;
        private int at = 0;

        boolean append(int letter) {
            if (size >= MOST_BYTES) {
                return false;
            }
            bytes[size] = letter;
            size++;
            return true;
        }

        boolean readInto(Net net) {
            net.clear();
            at = 0;
            boolean whole = readLaw(net);
            // A text has one pipe at least; as each takes bytes, no text has more than bytes.
            for (int i = 0; i < MOST_BYTES && whole && (i == 0 || at < size); i++) {
                whole = readPipe(net);
            }
            net.cells[Net.TAPS] = net.allPipes();
            return whole;
        }

        private boolean readLaw(Net net) {
            if (!passes('m')) {
                return false;
            }
            int horns = number(2, Net.MOST_HORNS, UNREAD);
            if (horns == UNREAD || !passes(',')) {
                return false;
            }
            int loss = number(0, 9, UNREAD);
            if (loss == UNREAD || !passes(';')) {
                return false;
            }
            net.cells[Net.HORNS] = horns;
            net.cells[Net.LOSS] = loss;
            return true;
        }

        private boolean readPipe(Net net) {
            int p = net.cells[Net.PIPES];
            int kind = at < size ? Kinds.ofLetter(bytes[at]) : Kinds.PIPE;
            if (kind == Kinds.PIPE) {
                return refuse(CANNOT_STAND, at);
            }
            if (p >= Net.MOST_PIPES) {
                return refuse(NO_ROOM, at);
            }
            at++;
            int lastHorn = net.cells[Net.HORNS] - 1;
            int from = number(0, lastHorn, UNREAD);
            if (from == UNREAD || !passes(',')) {
                return false;
            }
            int to = number(0, lastHorn, from);
            if (to == UNREAD || !passes(',')) {
                return false;
            }
            int length = number(1, Net.PLACES, UNREAD);
            if (length == UNREAD || !passes(',')) {
                return false;
            }
            int dent = number(0, 9, UNREAD);
            if (dent == UNREAD || !passes(';')) {
                return false;
            }
            net.cells[Net.KIND + p] = kind;
            net.cells[Net.FROM + p] = from;
            net.cells[Net.TO + p] = to;
            net.cells[Net.LENGTH + p] = length;
            net.cells[Net.DENT + p] = dent;
            net.cells[Net.PIPES] = p + 1;
            return true;
        }

        private boolean passes(int sign) {
            if (at >= size || bytes[at] != sign) {
                return refuse(CANNOT_STAND, at);
            }
            at++;
            return true;
        }

        /** A NUMBER from least to most, but not one; UNREAD if there is a FAULT. */
        private int number(int least, int most, int not) {
            int start = at;
            int value = 0;
            while (at < size && bytes[at] >= '0' && bytes[at] <= '9') {
                value = 10 * value + bytes[at] - '0';
                at++;
            }
            // Of a longer run the value may have wrapped around, so its length is looked at first.
            if (at == start || at - start > 2) {
                refuse(CANNOT_STAND, start);
                return UNREAD;
            }
            if (value < least || value > most || value == not) {
                refuse(NOT_AS_TOLD, start);
                return UNREAD;
            }
            return value;
        }

        private boolean refuse(int number, int where) {
            fault = number;
            place = where;
            return false;
        }
    }

    /** What is FORETOLD: all is tried on a net of its own, so that nothing changes. */
    private static final class Foresight {
        private static final int TAP_SETS = 1 << Net.MOST_PIPES;
        private static final int TURNED_LOUD = 50, TOLD_LOUD = 60, ROUND_LOUD = 90, DRAWN_LOUD = 40;
        private static final int MOST_LOUD = 99, WORDS = 10;
        private static final int AS_IT_IS = 64;

        final Net now = new Net();
        private final Net trial = new Net();

        private void begin() {
            trial.take(now.cells);
        }

        /** In which of n BREATHS of the trial one of some HORNS (bits) HEARS something first; 0 in none. */
        private int firstOnTrial(int horns, int n) {
            for (int i = 1; i <= n; i++) {
                if (trial.isSilent()) {
                    return 0;
                }
                if ((trial.passBreath() & horns) != 0) {
                    return i;
                }
            }
            return 0;
        }

        int soundHeard(int horn, int n) {
            begin();
            for (int i = 0; i < n; i++) {
                trial.passBreath();
            }
            return trial.out[horn];
        }

        int firstHearing(int horn, int n) {
            begin();
            int breath = firstOnTrial(1 << horn, n);
            return breath == 0 ? NONE : breath;
        }

        int hornsThatHear(int n) {
            begin();
            int heard = 0;
            for (int i = 0; i < n; i++) {
                heard |= trial.passBreath();
            }
            return heard;
        }

        int breathsToSilence(int most) {
            begin();
            for (int i = 0; i < most; i++) {
                if (trial.isSilent()) {
                    return i;
                }
                trial.passBreath();
            }
            return trial.isSilent() ? most : NONE;
        }

        /** The fewest taps of a pool that, turned, make it so that some HORNS hear, or do not; NONE. */
        int fewestTurned(int pool, int h, int horns, int n, boolean hear) {
            int best = NONE;
            for (int set = 0; set < TAP_SETS; set++) {
                boolean better = best == NONE || Integer.bitCount(set) < Integer.bitCount(best);
                if (better && (set & ~pool) == 0 && hearsWhenTurned(set, h, horns, n) == hear) {
                    best = set;
                }
            }
            return best;
        }

        private boolean hearsWhenTurned(int set, int h, int horns, int n) {
            begin();
            trial.cells[Net.TAPS] ^= set;
            trial.letIn(h, 0, TURNED_LOUD);
            return firstOnTrial(horns, n) > 0;
        }

        int leastLoudness(int horn, int other, int n) {
            for (int loud = 1; loud <= MOST_LOUD; loud++) {
                begin();
                trial.letIn(horn, 0, loud);
                if (firstOnTrial(1 << other, n) > 0) {
                    return loud;
                }
            }
            return NONE;
        }

        int wordsToSay(int horn, int other, int word, int n) {
            int set = 0;
            for (int w = 0; w < WORDS; w++) {
                begin();
                trial.letIn(horn, w, TOLD_LOUD);
                if (hearsWord(other, word, n)) {
                    set |= 1 << w;
                }
            }
            return set;
        }

        private boolean hearsWord(int horn, int word, int n) {
            for (int i = 0; i < n; i++) {
                trial.passBreath();
                if (wordHeard(horn) == word) {
                    return true;
                }
            }
            return false;
        }

        /** The WORD HEARD in the latest BREATH of the trial, or less 1, as a ROW tells it. */
        private int wordHeard(int horn) {
            int sound = trial.out[horn];
            return sound == 0 ? -1 : Net.wordOf(sound);
        }

        int breathsRound(int horn, int n) {
            begin();
            trial.silence();
            trial.letIn(horn, 0, ROUND_LOUD);
            int breath = firstOnTrial(1 << horn, n);
            return breath == 0 ? NONE : breath;
        }

        int fewestPipes(int horn, int other) {
            int reached = 1 << horn;
            for (int pipes = 0; pipes < Net.MOST_HORNS; pipes++) {
                if ((reached >> other & 1) == 1) {
                    return pipes;
                }
                reached |= nextTo(reached);
            }
            return NONE;
        }

        private int nextTo(int horns) {
            int set = 0;
            for (int p = 0; p < now.cells[Net.PIPES]; p++) {
                if (now.isOpen(p) && (horns >> now.cells[Net.FROM + p] & 1) == 1) {
                    set |= 1 << now.cells[Net.TO + p];
                }
            }
            return set;
        }

        /** KINDS (which = 0), DENTS (1) or TAPS (2) of a PIPE by which what is told is HEARD. */
        int whatFits(int pipe, int which, int horn, int[] told, int i, int n) {
            int least = which == 0 ? Kinds.BRASS : 0;
            int most = which == 0 ? Kinds.OLD : which == 1 ? 9 : 1;
            int set = 0;
            for (int v = least; v <= most; v++) {
                begin();
                suppose(pipe, which, v);
                if (isHeardAsTold(horn, told, i, n)) {
                    set |= 1 << v;
                }
            }
            return set;
        }

        private void suppose(int pipe, int which, int v) {
            if (which == 0) {
                trial.cells[Net.KIND + pipe] = v;
            } else if (which == 1) {
                trial.cells[Net.DENT + pipe] = v;
            } else {
                trial.cells[Net.TAPS] = trial.cells[Net.TAPS] & ~(1 << pipe) | v << pipe;
            }
        }

        private boolean isHeardAsTold(int horn, int[] told, int i, int n) {
            for (int k = i; k < i + n; k++) {
                trial.passBreath();
                if (k < 0 || k >= told.length || wordHeard(horn) != told[k]) {
                    return false;
                }
            }
            return true;
        }

        int hornsSpokenAt(int horn, int word, int[] told, int i, int n) {
            begin();
            int set = isHeardAsTold(horn, told, i, n) ? AS_IT_IS : 0;
            for (int h = 0; h < now.cells[Net.HORNS]; h++) {
                begin();
                trial.letIn(h, word, TOLD_LOUD);
                if (isHeardAsTold(horn, told, i, n)) {
                    set |= 1 << h;
                }
            }
            return set;
        }

        int coldPipes(int n) {
            begin();
            int set = emptyPipes();
            for (int i = 0; i < n; i++) {
                trial.passBreath();
                set &= emptyPipes();
            }
            return set;
        }

        private int emptyPipes() {
            int set = 0;
            for (int p = 0; p < trial.cells[Net.PIPES]; p++) {
                if (trial.soundsIn(p) == 0) {
                    set |= 1 << p;
                }
            }
            return set;
        }

        /** STUCK: what stands above, or below, in lowest terms. */
        long likelihood(int horn, int n, int p, boolean above) {
            int open = now.cells[Net.TAPS];
            long cases = power(10, Integer.bitCount(open));
            long hearing = 0;
            for (int set = 0; set < TAP_SETS; set++) {
                if ((set & ~open) == 0) {
                    int shut = Integer.bitCount(set);
                    long weight = power(p, shut) * power(10 - p, Integer.bitCount(open) - shut);
                    hearing += weight > 0 && hearsWithShut(set, horn, n) ? weight : 0;
                }
            }
            long common = commonDivisor(cases, hearing);
            if (common < 1) {
                return above ? 0 : 1;
            }
            return above ? hearing / common : cases / common;
        }

        private boolean hearsWithShut(int set, int horn, int n) {
            begin();
            trial.cells[Net.TAPS] &= ~set;
            return firstOnTrial(1 << horn, n) > 0;
        }

        private static long power(int base, int exponent) {
            long product = 1;
            for (int i = 0; i < exponent; i++) {
                product *= base;
            }
            return product;
        }

        private static long commonDivisor(long a, long b) {
            long big = a;
            long small = b;
            for (int i = 0; i < 100 && small != 0; i++) {
                long rest = big % small;
                big = small;
                small = rest;
            }
            return big;
        }

        /** SITTINGS: how often something is HEARD, or how many sounds are in PIPES then. */
        int sitting(int n, int seed, boolean hearings) {
            begin();
            int horns = trial.cells[Net.HORNS];
            long x = seed;
            int heard = 0;
            for (int i = 0; i < n; i++) {
                x = x * 16807 % 2147483647L;
                if (x % 3 == 0 && horns > 0) {
                    trial.letIn((int) (x % horns), (int) (x % 10), DRAWN_LOUD);
                }
                heard += Integer.bitCount(trial.passBreath());
            }
            return hearings ? heard : trial.soundsInAll();
        }
    }

    /** ASKS of PIPES, answered by BODIES, and THE TRACE that these leave. */
    private static final class Bodies {
        private static final int MOST_STEPS = 16;
        /** No BODY leads to more than five others below it. */
        private static final int DEEPEST = 8;
        /** The BODY that begins for each KIND: its own, or that of the nearest KIND that it is, too. */
        private static final int[] SIZE_BODY = {10, 11, 12, 11, 13, 14};
        private static final int[] MARK_BODY = {20, 21, 24, 22, 23, 23};

        final int[] steps = new int[MOST_STEPS];
        int begun = 0;

        int answer(Net net, int pipe, int what) {
            begun = 0;
            return what == 0 ? sizeOf(net, pipe, 0) : markOf(net, pipe, 0);
        }

        private int sizeOf(Net net, int pipe, int depth) {
            return give(SIZE_BODY[net.cells[Net.KIND + pipe]], net, pipe, depth);
        }

        private int markOf(Net net, int pipe, int depth) {
            return give(MARK_BODY[net.cells[Net.KIND + pipe]], net, pipe, depth);
        }

        private int give(int body, Net net, int pipe, int depth) {
            if (depth > DEEPEST) {
                return 0;
            }
            leave(body);
            int below = depth + 1;
            switch (body) {
                case 10:
                    return net.cells[Net.LENGTH + pipe];
                case 11:
                    return give(10, net, pipe, below) + markOf(net, pipe, below);
                case 12:
                    return 0 - give(11, net, pipe, below);
                case 13:
                    return give(10, net, pipe, below) - 100;
                case 14:
                    return 2 * give(13, net, pipe, below);
                case 20:
                    return pipe;
                case 21:
                    return give(20, net, pipe, below) + net.cells[Net.DENT + pipe];
                case 22:
                    return give(21, net, pipe, below) - 1000;
                case 23:
                    return give(20, net, pipe, below) - sizeOf(net, pipe, below);
                case 24:
                    return 2 * give(21, net, pipe, below);
                default:
                    return 0;
            }
        }

        private void leave(int body) {
            if (begun < MOST_STEPS) {
                steps[begun] = body;
                begun++;
            }
        }
    }
}

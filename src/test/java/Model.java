import java.math.BigInteger;
import java.util.ArrayDeque;
import java.util.ArrayList;
import java.util.Arrays;
import java.util.Comparator;
import java.util.Deque;
import java.util.List;
import java.util.function.Consumer;
import java.util.function.Predicate;

/**
 * The document once more, written another way (objects for sounds and pipes, whole copies, lists of
 * tokens, the KINDS as classes), to compare EarTrumpets with. Speed and room do not matter here.
 */
final class Model {
    static final int NONE = -1000000, BAD = -1000001, STATE = -1000002, FULL = -1000003;

    record Sound(int word, int loud) {
    }

    /** A KIND of PIPES: what COMES OUT, and the two ASKS. */
    interface Pipe {
        Body body();

        Sound out(Sound in, int loss);

        default int size() {
            body().trace.add(10);
            return body().places.length;
        }

        default int mark() {
            body().trace.add(20);
            return body().number;
        }
    }

    /** What all PIPES have. */
    static final class Body {
        int number;
        int from;
        int to;
        int dent;
        boolean open = true;
        Sound[] places;
        List<Integer> trace;
        char sort;

        Body copy() {
            Body other = new Body();
            other.number = number;
            other.from = from;
            other.to = to;
            other.dent = dent;
            other.open = open;
            other.places = places.clone();
            other.trace = trace;
            other.sort = sort;
            return other;
        }

        Pipe pipe() {
            return switch (sort) {
                case 'b' -> new Brass(this);
                case 'd' -> new Dented(this);
                case 'n' -> new Narrow(this);
                case 'l' -> new Leaky(this);
                default -> new Old(this);
            };
        }

        int sounds() {
            return (int) Arrays.stream(places).filter(s -> s != null).count();
        }
    }

    static class Brass implements Pipe {
        final Body body;

        Brass(Body body) {
            this.body = body;
        }

        public Body body() {
            return body;
        }

        public Sound out(Sound in, int loss) {
            return new Sound(in.word(), in.loud() - loss);
        }

        public int size() {
            body.trace.add(11);
            int lent = Pipe.super.size();
            return lent + mark();
        }

        public int mark() {
            body.trace.add(21);
            return Pipe.super.mark() + body.dent;
        }
    }

    static final class Dented extends Brass {
        Dented(Body body) {
            super(body);
        }

        @Override
        public Sound out(Sound in, int loss) {
            Sound s = super.out(in, loss);
            return new Sound((s.word() + body.dent) % 10, s.loud());
        }

        @Override
        public int size() {
            body.trace.add(12);
            return -super.size();
        }

        @Override
        public int mark() {
            body.trace.add(24);
            return super.mark() * 2;
        }
    }

    static final class Narrow extends Brass {
        Narrow(Body body) {
            super(body);
        }

        @Override
        public Sound out(Sound in, int loss) {
            Sound s = super.out(in, loss);
            return new Sound(s.word(), s.loud() - body.dent);
        }

        @Override
        public int mark() {
            body.trace.add(22);
            return super.mark() - 1000;
        }
    }

    static class Leaky implements Pipe {
        final Body body;

        Leaky(Body body) {
            this.body = body;
        }

        public Body body() {
            return body;
        }

        public Sound out(Sound in, int loss) {
            return new Sound(in.word(), in.loud() / 2);
        }

        public int size() {
            body.trace.add(13);
            return Pipe.super.size() - 100;
        }

        public int mark() {
            body.trace.add(23);
            int lent = Pipe.super.mark();
            return lent - size();
        }
    }

    static final class Old extends Leaky {
        Old(Body body) {
            super(body);
        }

        @Override
        public Sound out(Sound in, int loss) {
            Sound s = super.out(in, loss);
            return new Sound((s.word() + body.dent) % 10, s.loud());
        }

        @Override
        public int size() {
            body.trace.add(14);
            return super.size() * 2;
        }
    }

    static final class House {
        int horns;
        int loss;
        int breath;
        List<Body> pipes = new ArrayList<>();
        Sound[] heard;
        int[] when;

        House copy() {
            House other = new House();
            other.horns = horns;
            other.loss = loss;
            other.breath = breath;
            for (Body b : pipes) {
                other.pipes.add(b.copy());
            }
            other.heard = heard.clone();
            other.when = when.clone();
            return other;
        }

        /** What each HORN HEARS in a BREATH; null: nothing. */
        Sound[] breathe() {
            Sound[] at = new Sound[horns];
            for (Body b : pipes) {
                Sound last = b.places[b.places.length - 1];
                for (int i = b.places.length - 1; i > 0; i--) {
                    b.places[i] = b.places[i - 1];
                }
                b.places[0] = null;
                if (last != null) {
                    Sound out = b.pipe().out(last, loss);
                    if (out.loud() > 0 && (at[b.to] == null || at[b.to].loud() < out.loud())) {
                        at[b.to] = out;
                    }
                }
            }
            for (int h = 0; h < horns; h++) {
                if (at[h] != null) {
                    heard[h] = at[h];
                    when[h] = breath;
                    for (Body b : pipes) {
                        if (b.from == h && b.open) {
                            b.places[0] = at[h];
                        }
                    }
                }
            }
            breath++;
            return at;
        }

        int speak(int horn, int word, int loud) {
            int n = 0;
            for (Body b : pipes) {
                if (b.from == horn && b.open && (b.places[0] == null || b.places[0].loud() < loud)) {
                    b.places[0] = new Sound(word, loud);
                    n++;
                }
            }
            return n;
        }

        void hush() {
            for (Body b : pipes) {
                Arrays.fill(b.places, null);
            }
        }

        int sounds() {
            return pipes.stream().mapToInt(Body::sounds).sum();
        }

        int open() {
            int set = 0;
            for (Body b : pipes) {
                set |= b.open ? 1 << b.number : 0;
            }
            return set;
        }
    }

    private final int[][] rows = new int[8][];
    private final int[] lanes = new int[8];
    private final StringBuilder tape = new StringBuilder();
    private final List<Integer> trace = new ArrayList<>();
    private final Deque<House> acts = new ArrayDeque<>();
    private final House[] images = new House[2];
    private House house = null;
    private int fault = 0;
    private int status = 0;

    private int found(int number) {
        status = number;
        return -1000010 - number;
    }

    private int fine(int answer) {
        status = 0;
        return answer;
    }

    private static boolean in(int v, int a, int b) {
        return a <= v && v <= b;
    }

    private boolean isHorn(int h) {
        return house != null && in(h, 0, house.horns - 1);
    }

    private boolean isPipe(int p) {
        return house != null && in(p, 0, house.pipes.size() - 1);
    }

    private static int bits(Sound[] at) {
        int set = 0;
        for (int h = 0; h < at.length; h++) {
            set |= at[h] != null ? 1 << h : 0;
        }
        return set;
    }

    // ---- rows

    int row(int row, int lane, int n) {
        if (!in(row, 0, 7) || !in(lane, 0, 2) || n > 40) {
            return BAD;
        }
        if (n < 0) {
            return found(4);
        }
        rows[row] = new int[n];
        lanes[row] = lane;
        return fine(n);
    }

    int set(int row, int i, int v) {
        if (!in(row, 0, 7)) {
            return BAD;
        }
        if (rows[row] == null) {
            return found(1);
        }
        if (!in(i, 0, rows[row].length - 1)) {
            return found(2);
        }
        int shift = new int[] {24, 16, 0}[lanes[row]];
        rows[row][i] = v << shift >> shift;
        return fine(rows[row][i]);
    }

    int copy(int a, int i, int b, int j, int n) {
        if (!in(a, 0, 7) || !in(b, 0, 7)) {
            return BAD;
        }
        if (rows[a] == null || rows[b] == null) {
            return found(1);
        }
        if (lanes[a] != lanes[b]) {
            return found(5);
        }
        if (i < 0 || j < 0 || n < 0 || (long) i + n > rows[a].length || (long) j + n > rows[b].length) {
            return found(2);
        }
        int[] were = rows[a].clone();
        for (int k = 0; k < n; k++) {
            rows[b][j + k] = were[i + k];
        }
        return fine(n);
    }

    int drop(int row) {
        if (!in(row, 0, 7)) {
            return BAD;
        }
        if (rows[row] == null) {
            return found(1);
        }
        int had = rows[row].length;
        rows[row] = null;
        return fine(had);
    }

    // ---- what is told

    int feed(int letter) {
        if (!in(letter, 0, 255)) {
            return BAD;
        }
        if (tape.length() == 120) {
            return FULL;
        }
        tape.append((char) letter);
        return tape.length();
    }

    /** A TOKEN: a letter, a sign, "0" for a NUMBER, "?" for none, "" for the end. */
    private record Token(String what, int value, int at) {
    }

    private static List<Token> tokens(String text) {
        List<Token> all = new ArrayList<>();
        int i = 0;
        while (i < text.length()) {
            char c = text.charAt(i);
            int j = i;
            while (j < text.length() && "0123456789".indexOf(text.charAt(j)) >= 0) {
                j++;
            }
            if (j > i) {
                all.add(j - i > 2 ? new Token("?", 0, i) : new Token("0", Integer.parseInt(text.substring(i, j)), i));
                i = j;
            } else {
                boolean is = c >= 'a' && c <= 'z' || c == ',' || c == ';';
                all.add(new Token(is ? String.valueOf(c) : "?", 0, i));
                i++;
            }
        }
        all.add(new Token("", 0, text.length()));
        return all;
    }

    int house() {
        List<Token> all = tokens(tape.toString());
        tape.setLength(0);
        House read = new House();
        int[] pipe = new int[4];
        String form = "m0,0;";
        int sort = 0;
        for (int t = 0; t < all.size(); t++) {
            Token token = all.get(t);
            // The law has five TOKENS, each pipe behind it nine.
            int at = t < 5 ? t : 5 + (t - 5) % 9;
            boolean ok;
            if (at == 5) {
                if (token.what().isEmpty() && !read.pipes.isEmpty()) {
                    break;
                }
                ok = !token.what().isEmpty() && "bdnlo".contains(token.what());
                if (ok && read.pipes.size() == 7) {
                    return faulty(3, token.at());
                }
                sort = ok ? token.what().charAt(0) : 0;
            } else {
                ok = token.what().equals(at < 5 ? form.substring(at, at + 1) : "0,0,0,0;".substring(at - 6, at - 5));
            }
            if (!ok) {
                return faulty(1, token.at());
            }
            if (token.what().equals("0")) {
                int v = token.value();
                boolean told = switch (at) {
                    case 1 -> in(v, 2, 6);
                    case 3, 12 -> in(v, 0, 9);
                    case 6 -> v < read.horns;
                    case 8 -> v < read.horns && v != pipe[0];
                    default -> in(v, 1, 4);
                };
                if (!told) {
                    return faulty(2, token.at());
                }
                if (at == 1) {
                    read.horns = v;
                } else if (at == 3) {
                    read.loss = v;
                } else {
                    pipe[(at - 6) / 2] = v;
                }
            }
            if (at == 13) {
                Body b = new Body();
                b.number = read.pipes.size();
                b.from = pipe[0];
                b.to = pipe[1];
                b.places = new Sound[pipe[2]];
                b.dent = pipe[3];
                b.trace = trace;
                b.sort = (char) sort;
                read.pipes.add(b);
            }
        }
        read.heard = new Sound[read.horns];
        read.when = new int[read.horns];
        house = read;
        acts.clear();
        return house.pipes.size();
    }

    private int faulty(int number, int at) {
        fault = number;
        return -1000100 - at;
    }

    int fault() {
        return fault;
    }

    int undo() {
        if (acts.isEmpty()) {
            return STATE;
        }
        house = acts.pop();
        return acts.size();
    }

    private void act() {
        acts.push(house.copy());
        if (acts.size() > 24) {
            acts.removeLast();
        }
    }

    // ---- what is done

    int breathe(int n) {
        if (house == null) {
            return STATE;
        }
        if (!in(n, 1, 24)) {
            return BAD;
        }
        if (house.breath + n > 999) {
            return FULL;
        }
        int last = 0;
        for (int i = 0; i < n; i++) {
            act();
            last = bits(house.breathe());
        }
        return last;
    }

    int speak(int horn, int word, int loud) {
        if (!isHorn(horn) || !in(word, 0, 9) || !in(loud, 1, 99)) {
            return BAD;
        }
        act();
        return house.speak(horn, word, loud);
    }

    int tap(int pipe, int on) {
        if (!isPipe(pipe) || !in(on, 0, 1)) {
            return BAD;
        }
        if (house.pipes.get(pipe).open == (on == 1)) {
            return STATE;
        }
        act();
        house.pipes.get(pipe).open = on == 1;
        return house.open();
    }

    int dent(int pipe, int v) {
        if (!isPipe(pipe) || !in(v, 0, 9)) {
            return BAD;
        }
        act();
        int was = house.pipes.get(pipe).dent;
        house.pipes.get(pipe).dent = v;
        return was;
    }

    int hush() {
        if (house == null) {
            return STATE;
        }
        act();
        int were = house.sounds();
        house.hush();
        return were;
    }

    int pipe(int pipe, int what) {
        if (!isPipe(pipe) || !in(what, 0, 5)) {
            return BAD;
        }
        Body b = house.pipes.get(pipe);
        return new int[] {b.from, b.to, b.places.length, b.dent, b.open ? 1 : 0, b.sounds()}[what];
    }

    int inside(int pipe, int place) {
        if (!isPipe(pipe) || !in(place, 0, house.pipes.get(pipe).places.length - 1)) {
            return BAD;
        }
        Sound s = house.pipes.get(pipe).places[place];
        return s == null ? NONE : 100 * s.word() + s.loud();
    }

    int horn(int horn, int what) {
        if (!isHorn(horn) || !in(what, 0, 4)) {
            return BAD;
        }
        Sound s = house.heard[horn];
        int from = 0;
        int to = 0;
        for (Body b : house.pipes) {
            from += b.from == horn ? 1 << b.number : 0;
            to += b.to == horn ? 1 << b.number : 0;
        }
        return new int[] {s == null ? NONE : s.word(), s == null ? 0 : s.loud(),
            s == null ? NONE : house.when[horn], from, to}[what];
    }

    // ---- foretold

    /** What each HORN HEARS in each of n BREATHS, behind something that is done first. */
    private List<Sound[]> future(Consumer<House> first, int n) {
        House then = house.copy();
        first.accept(then);
        List<Sound[]> all = new ArrayList<>();
        for (int i = 0; i < n; i++) {
            all.add(then.breathe());
        }
        return all;
    }

    private boolean hears(Consumer<House> first, int horns, int n) {
        return future(first, n).stream().anyMatch(at -> (bits(at) & horns) != 0);
    }

    private static int firstOf(List<Sound[]> all, int horn) {
        for (int i = 0; i < all.size(); i++) {
            if (all.get(i)[horn] != null) {
                return i + 1;
            }
        }
        return NONE;
    }

    int ahead(int horn, int n, int what) {
        if (!isHorn(horn) || !in(n, 1, 60) || !in(what, 0, 1)) {
            return BAD;
        }
        Sound s = future(h -> { }, n).get(n - 1)[horn];
        return s == null ? NONE : what == 0 ? s.word() : s.loud();
    }

    int first(int horn) {
        return isHorn(horn) ? firstOf(future(h -> { }, 60), horn) : BAD;
    }

    int hearers(int n) {
        if (house == null) {
            return STATE;
        }
        if (!in(n, 1, 60)) {
            return BAD;
        }
        return future(h -> { }, n).stream().mapToInt(Model::bits).reduce(0, (a, b) -> a | b);
    }

    int quiet() {
        if (house == null) {
            return STATE;
        }
        House then = house.copy();
        for (int i = 0; i <= 60; i++) {
            if (then.sounds() == 0) {
                return i;
            }
            then.breathe();
        }
        return NONE;
    }

    private int fewest(Predicate<Body> usable, int h, Predicate<Consumer<House>> wanted, int what) {
        List<Integer> sets = new ArrayList<>();
        for (int set = 0; set < 1 << house.pipes.size(); set++) {
            boolean all = true;
            for (Body b : house.pipes) {
                all &= (set >> b.number & 1) == 0 || usable.test(b);
            }
            if (all) {
                sets.add(set);
            }
        }
        sets.sort(Comparator.comparing((Integer s) -> Integer.bitCount(s)).thenComparing(s -> s));
        for (int set : sets) {
            Consumer<House> turned = then -> {
                for (Body b : then.pipes) {
                    b.open ^= (set >> b.number & 1) == 1;
                }
                then.speak(h, 0, 50);
            };
            if (wanted.test(turned)) {
                return what == 0 ? Integer.bitCount(set) : set;
            }
        }
        return NONE;
    }

    int shuts(int h, int horns, int n, int what) {
        if (house == null) {
            return STATE;
        }
        if (!isHorn(h) || !in(horns, 0, (1 << house.horns) - 1) || !in(n, 1, 30) || !in(what, 0, 1)) {
            return BAD;
        }
        return fewest(b -> b.open, h, turned -> !hears(turned, horns, n), what);
    }

    int opens(int h, int horn, int n, int what) {
        if (!isHorn(h) || !isHorn(horn) || !in(n, 1, 30) || !in(what, 0, 1)) {
            return BAD;
        }
        return fewest(b -> !b.open, h, turned -> hears(turned, 1 << horn, n), what);
    }

    int loud(int horn, int other, int n) {
        if (!isHorn(horn) || !isHorn(other) || !in(n, 1, 30)) {
            return BAD;
        }
        for (int l = 1; l <= 99; l++) {
            int by = l;
            if (hears(then -> then.speak(horn, 0, by), 1 << other, n)) {
                return l;
            }
        }
        return NONE;
    }

    int say(int horn, int other, int word, int n) {
        if (!isHorn(horn) || !isHorn(other) || !in(word, 0, 9) || !in(n, 1, 30)) {
            return BAD;
        }
        int set = 0;
        for (int w = 0; w < 10; w++) {
            int said = w;
            if (future(then -> then.speak(horn, said, 60), n).stream()
                    .anyMatch(at -> at[other] != null && at[other].word() == word)) {
                set += 1 << w;
            }
        }
        return set;
    }

    int round(int horn) {
        if (!isHorn(horn)) {
            return BAD;
        }
        return firstOf(future(then -> {
            then.hush();
            then.speak(horn, 0, 90);
        }, 60), horn);
    }

    int way(int horn, int other) {
        if (!isHorn(horn) || !isHorn(other)) {
            return BAD;
        }
        int[][] far = new int[house.horns][house.horns];
        for (int[] f : far) {
            Arrays.fill(f, 1000);
        }
        for (Body b : house.pipes) {
            far[b.from][b.to] = b.open ? 1 : far[b.from][b.to];
        }
        for (int k = 0; k < house.horns; k++) {
            far[k][k] = 0;
            for (int a = 0; a < house.horns; a++) {
                for (int b = 0; b < house.horns; b++) {
                    far[a][b] = Math.min(far[a][b], far[a][k] + far[k][b]);
                }
            }
        }
        return far[horn][other] >= 1000 ? NONE : far[horn][other];
    }

    private boolean fits(Consumer<House> first, int horn, int[] told) {
        int[] words = future(first, told.length).stream()
                .mapToInt(at -> at[horn] == null ? -1 : at[horn].word()).toArray();
        return Arrays.equals(words, told);
    }

    int who(int pipe, int which, int horn, int row, int i, int n) {
        if (!isPipe(pipe) || !in(which, 0, 2) || !isHorn(horn) || !in(row, 0, 7) || !in(n, 1, 12)) {
            return BAD;
        }
        if (rows[row] == null) {
            return found(1);
        }
        if (i < 0 || (long) i + n > rows[row].length) {
            return found(2);
        }
        int[] told = Arrays.copyOfRange(rows[row], i, i + n);
        int set = 0;
        if (which == 0) {
            for (int k = 1; k <= 5; k++) {
                char sort = " bdnlo".charAt(k);
                set += fits(then -> then.pipes.get(pipe).sort = sort, horn, told) ? 1 << k : 0;
            }
        } else if (which == 1) {
            for (int d = 0; d <= 9; d++) {
                int dent = d;
                set += fits(then -> then.pipes.get(pipe).dent = dent, horn, told) ? 1 << d : 0;
            }
        } else {
            set += fits(then -> then.pipes.get(pipe).open = false, horn, told) ? 1 : 0;
            set += fits(then -> then.pipes.get(pipe).open = true, horn, told) ? 2 : 0;
        }
        return fine(set);
    }

    int spoke(int horn, int word, int row, int i, int n) {
        if (!isHorn(horn) || !in(word, 0, 9) || !in(row, 0, 7) || !in(n, 1, 12)) {
            return BAD;
        }
        if (rows[row] == null) {
            return found(1);
        }
        if (i < 0 || (long) i + n > rows[row].length) {
            return found(2);
        }
        int[] told = Arrays.copyOfRange(rows[row], i, i + n);
        int set = fits(then -> { }, horn, told) ? 64 : 0;
        for (int h = 0; h < house.horns; h++) {
            int at = h;
            set += fits(then -> then.speak(at, word, 60), horn, told) ? 1 << h : 0;
        }
        return fine(set);
    }

    int cold(int n) {
        if (house == null) {
            return STATE;
        }
        if (!in(n, 1, 60)) {
            return BAD;
        }
        int warm = 0;
        House then = house.copy();
        for (int i = 0; i <= n; i++) {
            for (Body b : then.pipes) {
                warm |= b.sounds() > 0 ? 1 << b.number : 0;
            }
            then.breathe();
        }
        return (1 << house.pipes.size()) - 1 - warm;
    }

    /** Out of 10 to the power of the open taps from here on: in how many cases it is HEARD. */
    private BigInteger cases(House then, int from, int horn, int n, int p) {
        if (from == then.pipes.size()) {
            House last = then.copy();
            for (int i = 0; i < n; i++) {
                if (last.breathe()[horn] != null) {
                    return BigInteger.ONE;
                }
            }
            return BigInteger.ZERO;
        }
        Body b = then.pipes.get(from);
        if (!b.open) {
            return cases(then, from + 1, horn, n, p);
        }
        BigInteger open = cases(then, from + 1, horn, n, p).multiply(BigInteger.valueOf(10 - p));
        b.open = false;
        BigInteger shut = cases(then, from + 1, horn, n, p).multiply(BigInteger.valueOf(p));
        b.open = true;
        return open.add(shut);
    }

    long stuck(int horn, int n, int p, int what) {
        if (!isHorn(horn) || !in(n, 1, 30) || !in(p, 0, 10) || !in(what, 0, 1)) {
            return BAD;
        }
        BigInteger above = cases(house.copy(), 0, horn, n, p);
        BigInteger below = BigInteger.TEN.pow(Integer.bitCount(house.open()));
        BigInteger common = above.gcd(below);
        return (what == 0 ? above : below).divide(common).longValueExact();
    }

    int drawn(int n, int seed, int what) {
        if (house == null) {
            return STATE;
        }
        if (!in(n, 0, 60) || !in(seed, 1, 999999) || !in(what, 0, 1)) {
            return BAD;
        }
        House then = house.copy();
        BigInteger x = BigInteger.valueOf(seed);
        int heard = 0;
        for (int i = 0; i < n; i++) {
            x = x.multiply(BigInteger.valueOf(16807)).mod(BigInteger.valueOf(2147483647));
            int v = x.intValueExact();
            if (v % 3 == 0) {
                then.speak(v % house.horns, v % 10, 40);
            }
            heard += Integer.bitCount(bits(then.breathe()));
        }
        return what == 0 ? heard : then.sounds();
    }

    int image(int k) {
        if (!in(k, 0, 1)) {
            return BAD;
        }
        if (house == null) {
            return STATE;
        }
        images[k] = house.copy();
        return 1;
    }

    int restore(int k) {
        if (!in(k, 0, 1)) {
            return BAD;
        }
        if (images[k] == null) {
            return STATE;
        }
        house = images[k].copy();
        acts.clear();
        return 1;
    }

    // ---- asked

    int kind(int one) {
        return isPipe(one) ? " bdnlo".indexOf(house.pipes.get(one).sort) : BAD;
    }

    int as(int one, int kind) {
        if (!isPipe(one) || !in(kind, 0, 5)) {
            return BAD;
        }
        Class<?>[] kinds = {Pipe.class, Brass.class, Dented.class, Narrow.class, Leaky.class, Old.class};
        return kinds[kind].isInstance(house.pipes.get(one).pipe()) ? fine(one) : found(3);
    }

    int ask(int one, int what) {
        if (!isPipe(one) || !in(what, 0, 1)) {
            return BAD;
        }
        trace.clear();
        Pipe pipe = house.pipes.get(one).pipe();
        return what == 0 ? pipe.size() : pipe.mark();
    }

    int trace(int i) {
        return in(i, 0, Math.min(16, trace.size()) - 1) ? trace.get(i) : NONE;
    }

    int count(int what) {
        if (!in(what, 0, 7)) {
            return BAD;
        }
        int there = (int) Arrays.stream(rows).filter(r -> r != null).count();
        if (house == null) {
            return what == 0 ? there : what == 7 ? tape.length() : 0;
        }
        return new int[] {there, house.horns, house.pipes.size(), house.breath, house.open(),
            house.sounds(), acts.size(), tape.length()}[what];
    }

    int status() {
        return status;
    }
}

import java.math.BigInteger;
import java.util.ArrayList;
import java.util.Arrays;
import java.util.HashMap;
import java.util.HashSet;
import java.util.LinkedHashMap;
import java.util.List;
import java.util.Map;
import java.util.NoSuchElementException;
import java.util.Set;
import java.util.regex.Matcher;
import java.util.regex.Pattern;

/** The document once more, told as naively as it can be, to hold the program against. Slow, and free with the library. */
public final class Naive {
    static final Set<String> KEYWORDS =
        Set.of("lattice", "hearer", "gain", "sender", "drifts", "like", "station", "bearing");

    record Hearer(int place, long gain) { }

    record Sender(String name, int d, long a, int v, String like) { }

    record Station(String name, int x, int y) { }

    record Bearing(int station, int dx, int dy) { }

    record Point(BigInteger xa, BigInteger xb, BigInteger ya, BigInteger yb) { }

    record Token(String text, int at) { }

    static final class Fault extends RuntimeException {
        final int at;
        final int kind;

        Fault(int at, int kind) {
            super("fault");
            this.at = at;
            this.kind = kind;
        }
    }

    /** FIELD and moment; never changed once it is the field of an object, but replaced. */
    static final class Field {
        int n = 12;
        List<Hearer> hearers = new ArrayList<>();
        List<Sender> senders = new ArrayList<>();
        List<Station> stations = new ArrayList<>();
        List<Bearing> bearings = new ArrayList<>();
        int moment = 0;

        Field copy() {
            Field f = new Field();
            f.n = n;
            f.hearers = new ArrayList<>(hearers);
            f.senders = new ArrayList<>(senders);
            f.stations = new ArrayList<>(stations);
            f.bearings = new ArrayList<>(bearings);
            f.moment = moment;
            return f;
        }
    }

    List<Integer> tape = new ArrayList<>();
    Field f = new Field();
    Map<Integer, Field> images = new HashMap<>();
    int fault = 0;
    long[] rule = new long[0];
    long roots = 0;
    long[] strengths = new long[0];
    int[] track = null;
    int[] made = null;
    long[] madeBy = new long[0];
    int madeSets = -1;
    int[] liar = null;
    int liarSets = -1;
    long[] nulls = new long[0];
    List<Integer> fixes = new ArrayList<>();

    // ---- numbers by the prime

    static boolean prime(int p) {
        return BigInteger.valueOf(p).isProbablePrime(30);
    }

    static final Map<Integer, long[]> LATTICES = new HashMap<>();

    static long[] lattice(int n) {
        return LATTICES.computeIfAbsent(n, Naive::findLattice);
    }

    static long[] findLattice(int n) {
        int p = 1001;
        while (!prime(p) || (p - 1) % n != 0) {
            p++;
        }
        for (long w = 1; ; w++) {
            boolean good = power(w, n, p) == 1;
            for (int k = 1; k < n; k++) {
                good = good && power(w, k, p) != 1;
            }
            if (good) {
                return new long[] {p, w};
            }
        }
    }

    static long power(long a, long e, long p) {
        return BigInteger.valueOf(a).modPow(BigInteger.valueOf(e), BigInteger.valueOf(p)).longValue();
    }

    static long inverse(long a, long p) {
        return BigInteger.valueOf(a).modInverse(BigInteger.valueOf(p)).longValue();
    }

    long p() {
        return lattice(f.n)[0];
    }

    final Map<Long, Long> waves = new HashMap<>();

    long w(long d, long place) {
        long key = (f.n * 100L + Math.floorMod(d, f.n)) * 100 + place;
        return waves.computeIfAbsent(key, k -> power(lattice(f.n)[1], Math.floorMod(d, f.n) * place, p()));
    }

    /** The rank by p, by multiplying crosswise. */
    static int rank(long[][] rows, long p) {
        long[][] m = new long[rows.length][];
        for (int i = 0; i < m.length; i++) {
            m[i] = rows[i].clone();
        }
        int rank = 0;
        int width = m.length == 0 ? 0 : m[0].length;
        for (int c = 0; c < width; c++) {
            int r = rank;
            while (r < m.length && m[r][c] == 0) {
                r++;
            }
            if (r == m.length) {
                continue;
            }
            long[] held = m[r];
            m[r] = m[rank];
            m[rank] = held;
            for (int i = rank + 1; i < m.length; i++) {
                long a = m[rank][c];
                long b = m[i][c];
                for (int k = 0; k < width; k++) {
                    m[i][k] = Math.floorMod(m[i][k] * a - m[rank][k] * b, p);
                }
            }
            rank++;
        }
        return rank;
    }

    /** Rows of columns: a column each, the height given (for there may be no columns). */
    static long[][] rows(List<long[]> columns, int height) {
        long[][] m = new long[height][columns.size()];
        for (int c = 0; c < columns.size(); c++) {
            for (int r = 0; r < height; r++) {
                m[r][c] = columns.get(c)[r];
            }
        }
        return m;
    }

    static boolean madeOf(long[] column, List<long[]> columns, long p) {
        List<long[]> more = new ArrayList<>(columns);
        more.add(column);
        return rank(rows(more, column.length), p) == rank(rows(columns, column.length), p);
    }

    /** Numbers of the columns that make the goal, 0 of each that is made of lesser ones; null if none do. */
    static long[] numbers(List<long[]> columns, long[] goal, long p) {
        if (!madeOf(goal, columns, p)) {
            return null;
        }
        List<Integer> free = new ArrayList<>();
        for (int c = 0; c < columns.size(); c++) {
            if (!madeOf(columns.get(c), columns.subList(0, c), p)) {
                free.add(c);
            }
        }
        long[] answer = new long[columns.size()];
        // Take one column after the other away: its number is the one behind which the others make what is left.
        long[] left = goal.clone();
        for (int i = free.size() - 1; i >= 0; i--) {
            List<long[]> ahead = new ArrayList<>();
            for (int k = 0; k < i; k++) {
                ahead.add(columns.get(free.get(k)));
            }
            long[] own = columns.get(free.get(i));
            answer[free.get(i)] = shareOf(own, ahead, left, p);
            for (int r = 0; r < left.length; r++) {
                left[r] = Math.floorMod(left[r] - answer[free.get(i)] * own[r], p);
            }
        }
        return answer;
    }

    /** The x for which left less x own is made of those ahead: by a row of multipliers that makes 0 of all these. */
    static long shareOf(long[] own, List<long[]> ahead, long[] left, long p) {
        List<long[]> all = new ArrayList<>(ahead);
        all.add(own);
        all.add(left);
        // left is made of ahead and own: the echelon's last leading row tells x.
        long[][] m = rows(all, own.length);
        int rank = 0;
        int width = all.size();
        for (int c = 0; c < width - 1; c++) {
            int r = rank;
            while (m[r][c] == 0) {
                r++;
            }
            long[] held = m[r];
            m[r] = m[rank];
            m[rank] = held;
            for (int i = rank + 1; i < m.length; i++) {
                long a = m[rank][c];
                long b = m[i][c];
                for (int k = 0; k < width; k++) {
                    m[i][k] = Math.floorMod(m[i][k] * a - m[rank][k] * b, p);
                }
            }
            rank++;
        }
        return m[rank - 1][width - 1] * inverse(m[rank - 1][width - 2], p) % p;
    }

    // ---- the tape and its text

    public int feed(int a, int b, int c, int d, int e) {
        if (tape.size() > 920) {
            return -1;
        }
        for (int x : new int[] {a, b, c, d, e}) {
            for (byte y : java.nio.ByteBuffer.allocate(4).putInt(x).array()) {
                tape.add(y & 255);
            }
        }
        return tape.size();
    }

    public boolean end(int n) {
        if (n < 0 || n > tape.size()) {
            return false;
        }
        tape = new ArrayList<>(tape.subList(0, n));
        return true;
    }

    public int field() {
        StringBuilder text = new StringBuilder();
        for (int b : tape) {
            text.append((char) b);
        }
        tape.clear();
        fault = 0;
        try {
            Field told = new Field();
            int lines = parse(text.toString(), told);
            f = told;
            return lines;
        } catch (Fault x) {
            fault = x.kind;
            return -1 - x.at;
        }
    }

    private List<Token> tokens;
    private int next;

    private static List<Token> tokens(String text) {
        List<Token> all = new ArrayList<>();
        Matcher m = Pattern.compile("[a-z0-9]+|[^ \\n]", Pattern.DOTALL).matcher(text);
        while (m.find() && m.start() < 900) {
            all.add(new Token(m.group(), m.start()));
        }
        all.add(new Token("", Math.min(900, text.length())));
        return all;
    }

    private Token peek() {
        return tokens.get(next);
    }

    private boolean peekIs(String word) {
        return peek().text().equals(word);
    }

    private void expect(String sign) {
        if (!peekIs(sign)) {
            throw new Fault(peek().at(), 1);
        }
        next++;
    }

    private int number(int least, int most) {
        Token t = peek();
        if (!t.text().matches("[0-9]{1,3}")) {
            throw new Fault(t.at(), 1);
        }
        int v = Integer.parseInt(t.text());
        if (v < least || v > most) {
            throw new Fault(t.at(), 2);
        }
        next++;
        return v;
    }

    private int signed() {
        if (peekIs("-")) {
            next++;
            return -number(0, 99);
        }
        return number(0, 99);
    }

    private String name() {
        Token t = peek();
        if (!t.text().matches("[a-z]{1,7}") || KEYWORDS.contains(t.text())) {
            throw new Fault(t.at(), 1);
        }
        next++;
        return t.text();
    }

    private int parse(String text, Field g) {
        tokens = tokens(text);
        next = 0;
        int lines = 0;
        Map<String, String> names = new LinkedHashMap<>();
        boolean lattice = false;
        while (!peekIs("")) {
            Token first = peek();
            next++;
            switch (first.text()) {
                case "lattice" -> {
                    if (lattice || !g.senders.isEmpty()) {
                        throw new Fault(first.at(), 3);
                    }
                    g.n = number(2, 60);
                    lattice = true;
                }
                case "hearer" -> hearerLine(g, first);
                case "sender" -> senderLine(g, first, names);
                case "station" -> {
                    if (g.stations.size() == 4) {
                        throw new Fault(first.at(), 4);
                    }
                    String name = newName(names, "station");
                    int x = signed();
                    g.stations.add(new Station(name, x, signed()));
                }
                case "bearing" -> bearingLine(g, first, names);
                default -> throw new Fault(first.at(), 1);
            }
            expect(";");
            lines++;
        }
        if (text.length() > 900) {
            throw new Fault(900, 1);
        }
        return lines;
    }

    private void hearerLine(Field g, Token first) {
        if (g.hearers.size() == 10) {
            throw new Fault(first.at(), 4);
        }
        int at = peek().at();
        int place = number(0, 99);
        for (Hearer h : g.hearers) {
            if (h.place() == place) {
                throw new Fault(at, 3);
            }
        }
        int gain = 1;
        if (peekIs("gain")) {
            next++;
            gain = number(1, 999);
        }
        g.hearers.add(new Hearer(place, gain));
    }

    private String newName(Map<String, String> names, String sort) {
        int at = peek().at();
        String name = name();
        if (names.put(name, sort) != null) {
            throw new Fault(at, 3);
        }
        return name;
    }

    private void senderLine(Field g, Token first, Map<String, String> names) {
        if (g.senders.size() == 6) {
            throw new Fault(first.at(), 4);
        }
        String name = newName(names, "sender");
        int d = number(0, g.n - 1);
        int a = number(1, 999);
        int v = 0;
        String like = null;
        if (peekIs("drifts")) {
            next++;
            v = number(0, g.n - 1);
        }
        if (peekIs("like")) {
            next++;
            int at = peek().at();
            like = name();
            if (!"sender".equals(names.get(like)) || like.equals(name)) {
                throw new Fault(at, 3);
            }
        }
        g.senders.add(new Sender(name, d, a, v, like));
    }

    private void bearingLine(Field g, Token first, Map<String, String> names) {
        if (g.bearings.size() == 8) {
            throw new Fault(first.at(), 4);
        }
        int at = peek().at();
        String name = name();
        if (!"station".equals(names.get(name))) {
            throw new Fault(at, 3);
        }
        int which = 0;
        while (!g.stations.get(which).name().equals(name)) {
            which++;
        }
        int dx = signed();
        int dy = signed();
        if (dx == 0 && dy == 0) {
            throw new Fault(tokens.get(next - 1).at(), 2);
        }
        g.bearings.add(new Bearing(which, dx, dy));
    }

    public int fault() {
        return fault;
    }

    // ---- what a field tells

    public int hearer(int h, int what) {
        if (h < 0 || h >= f.hearers.size() || what < 0 || what > 1) {
            throw new NoSuchElementException();
        }
        return what == 0 ? f.hearers.get(h).place() : (int) f.hearers.get(h).gain();
    }

    int direction(int s) {
        return (f.senders.get(s).d() + f.senders.get(s).v() * f.moment) % f.n;
    }

    /** All senders alike with that one. */
    Set<Integer> flock(int s) {
        Set<Integer> flock = new HashSet<>(Set.of(s));
        for (int round = 0; round < 6; round++) {
            for (int i = 0; i < f.senders.size(); i++) {
                for (int j = 0; j < f.senders.size(); j++) {
                    if (f.senders.get(j).name().equals(f.senders.get(i).like())
                        && (flock.contains(i) || flock.contains(j))) {
                        flock.add(i);
                        flock.add(j);
                    }
                }
            }
        }
        return flock;
    }

    public int sender(int s, int what) {
        if (s < 0 || s >= f.senders.size() || what < 0 || what > 3) {
            throw new NoSuchElementException();
        }
        Sender x = f.senders.get(s);
        return what == 0 ? direction(s) : what == 1 ? (int) x.a() : what == 2 ? x.v()
            : flock(s).stream().min(Integer::compare).get();
    }

    public boolean moment(int t) {
        if (t < 0 || t > 999) {
            return false;
        }
        f.moment = t;
        return true;
    }

    public int wave(int d, int place) {
        return d < 0 || d >= f.n || place < 0 || place > 99 ? -1 : (int) w(d, place);
    }

    public int reading(int h) {
        if (h < 0 || h >= f.hearers.size()) {
            return -1;
        }
        long sum = 0;
        for (int s = 0; s < f.senders.size(); s++) {
            sum += f.senders.get(s).a() * w(direction(s), f.hearers.get(h).place());
        }
        return (int) (f.hearers.get(h).gain() * (sum % p()) % p());
    }

    long bareCover(int i, int j) {
        Set<Set<Integer>> flocks = new HashSet<>();
        for (int s = 0; s < f.senders.size(); s++) {
            flocks.add(flock(s));
        }
        long sum = 0;
        for (Set<Integer> flock : flocks) {
            long there = 0;
            long back = 0;
            for (int s : flock) {
                there += f.senders.get(s).a() * w(direction(s), f.hearers.get(i).place());
                back += f.senders.get(s).a() * w(f.n - direction(s), f.hearers.get(j).place());
            }
            sum += there % p() * (back % p()) % p();
        }
        return sum % p();
    }

    public int cover(int i, int j) {
        int m = f.hearers.size();
        if (i < 0 || i >= m || j < 0 || j >= m) {
            return -1;
        }
        return (int) (bareCover(i, j) * f.hearers.get(i).gain() % p() * f.hearers.get(j).gain() % p());
    }

    List<long[]> coverColumns() {
        int m = f.hearers.size();
        List<long[]> columns = new ArrayList<>();
        for (int j = 0; j < m; j++) {
            long[] c = new long[m];
            for (int i = 0; i < m; i++) {
                c[i] = cover(i, j);
            }
            columns.add(c);
        }
        return columns;
    }

    public int order() {
        return rank(rows(coverColumns(), f.hearers.size()), p());
    }

    long[] column(int d) {
        long[] c = new long[f.hearers.size()];
        for (int h = 0; h < c.length; h++) {
            c[h] = f.hearers.get(h).gain() * w(d, f.hearers.get(h).place()) % p();
        }
        return c;
    }

    public long seen() {
        long bits = 0;
        for (int d = 0; d < f.n; d++) {
            bits |= madeOf(column(d), coverColumns(), p()) ? 1L << d : 0;
        }
        return bits;
    }

    boolean twin(int d, int e, List<Hearer> by) {
        long ratio = by.isEmpty() ? 1 : w(e, by.get(0).place()) * inverse(w(d, by.get(0).place()), p()) % p();
        for (Hearer h : by) {
            if (w(e, h.place()) != w(d, h.place()) * ratio % p()) {
                return false;
            }
        }
        return d != e;
    }

    public long twins(int d) {
        if (d < 0 || d >= f.n) {
            return -1;
        }
        long bits = 0;
        for (int e = 0; e < f.n; e++) {
            bits |= twin(d, e, f.hearers) ? 1L << e : 0;
        }
        return bits;
    }

    boolean even() {
        for (int h = 0; h + 1 < f.hearers.size(); h++) {
            if (f.hearers.get(h + 1).place() - f.hearers.get(h).place() != 1) {
                return false;
            }
        }
        return true;
    }

    List<long[]> smooth(int n) {
        List<long[]> columns = new ArrayList<>();
        for (int l = 0; l < n; l++) {
            columns.add(new long[n]);
        }
        for (int s = 0; s <= f.hearers.size() - n; s++) {
            for (int k = 0; k < n; k++) {
                for (int l = 0; l < n; l++) {
                    columns.get(l)[k] = (columns.get(l)[k] + cover(k + s, l + s)) % p();
                }
            }
        }
        return columns;
    }

    public int smoothed(int n) {
        return n < 1 || n > f.hearers.size() || !even() ? -1 : rank(rows(smooth(n), n), p());
    }

    public long smoothSeen(int n) {
        if (smoothed(n) == -1) {
            return -1;
        }
        long bits = 0;
        for (int d = 0; d < f.n; d++) {
            long[] c = new long[n];
            for (int k = 0; k < n; k++) {
                c[k] = w(d, k);
            }
            bits |= madeOf(c, smooth(n), p()) ? 1L << d : 0;
        }
        return bits;
    }

    List<int[]> pairs(int l) {
        List<int[]> pairs = new ArrayList<>();
        for (int i = 0; i < f.hearers.size(); i++) {
            for (int j = 0; j < f.hearers.size(); j++) {
                if (f.hearers.get(i).place() == f.hearers.get(j).place() + l) {
                    pairs.add(new int[] {i, j});
                }
            }
        }
        return pairs;
    }

    public int apart(int l) {
        return l < 0 || l > 99 ? -1 : pairs(l).size();
    }

    public int run() {
        int l = -1;
        while (apart(l + 1) > 0) {
            l++;
        }
        return l;
    }

    public int lag(int l) {
        if (l < 0 || l > 99 || pairs(l).isEmpty()) {
            return -1;
        }
        int[] first = pairs(l).get(0);
        long gains = f.hearers.get(first[0]).gain() * f.hearers.get(first[1]).gain() % p();
        return gains == 0 ? 0 : (int) (cover(first[0], first[1]) * inverse(gains, p()) % p());
    }

    // ---- rules

    public int rule(int what) {
        if (f.hearers.isEmpty() || what < 0 || what > 1 || what == 0 && !even()) {
            return -1;
        }
        int many = what == 0 ? f.hearers.size() : run() + 1;
        long[] s = new long[many];
        for (int t = 0; t < many; t++) {
            s[t] = what == 0 ? reading(t) : lag(t);
        }
        int k = 0;
        long[] c = null;
        while (c == null) {
            List<long[]> columns = new ArrayList<>();
            for (int j = 1; j <= k; j++) {
                long[] column = new long[many - k];
                for (int t = k; t < many; t++) {
                    column[t - k] = s[t - j];
                }
                columns.add(column);
            }
            c = numbers(columns, Arrays.copyOfRange(s, k, many), p());
            k += c == null ? 1 : 0;
        }
        rule = c;
        findRoots(s);
        return k;
    }

    private void findRoots(long[] s) {
        int k = rule.length;
        List<long[]> columns = new ArrayList<>();
        roots = 0;
        for (int d = 0; d < f.n; d++) {
            long x = w(d, 1);
            long sum = power(x, k, p());
            for (int j = 1; j <= k; j++) {
                sum = Math.floorMod(sum - rule[j - 1] * power(x, k - j, p()), p());
            }
            if (sum == 0) {
                roots |= 1L << d;
                long[] column = new long[k];
                for (int t = 0; t < k; t++) {
                    column[t] = w(d, t);
                }
                columns.add(column);
            }
        }
        strengths = columns.size() == k && k > 0 ? numbers(columns, Arrays.copyOf(s, k), p()) : new long[0];
    }

    public int ruleAt(int k) {
        return k < 1 || k > rule.length ? -1 : (int) rule[k - 1];
    }

    public long roots() {
        return roots;
    }

    public int strength(int k) {
        return k < 0 || k >= strengths.length ? -1 : (int) strengths[k];
    }

    // ---- readings given

    /** Empties the tape; null with half a reading. */
    long[] given() {
        long[] r = tape.size() % 2 == 1 ? null : new long[tape.size() / 2];
        for (int i = 0; r != null && i < r.length; i++) {
            r[i] = (tape.get(2 * i) * 256 + tape.get(2 * i + 1)) % p();
        }
        tape.clear();
        return r;
    }

    public int tracks(int h) {
        long[] r = given();
        if (r == null || r.length < 1 || r.length > 8 || h < 0 || h >= f.hearers.size()) {
            return -1;
        }
        int many = 0;
        for (int d = 0; d < f.n; d++) {
            for (int v = 0; v < f.n; v++) {
                for (int a = 0; a < p(); a++) {
                    if (tracked(r, h, d, v, a)) {
                        many++;
                        track = many == 1 ? new int[] {d, v, a} : track;
                        break;
                    }
                }
            }
        }
        return many;
    }

    private boolean tracked(long[] r, int h, int d, int v, int a) {
        for (int t = 0; t < r.length; t++) {
            if (f.hearers.get(h).gain() * a % p() * w(d + v * t, f.hearers.get(h).place()) % p() != r[t]) {
                return false;
            }
        }
        return true;
    }

    public int track(int what) {
        return track == null || what < 0 || what > 2 ? -1 : track[what];
    }

    public int enough() {
        int best = -1;
        for (int set = 0; set < 1 << f.hearers.size(); set++) {
            List<Hearer> by = new ArrayList<>();
            for (int h = 0; h < f.hearers.size(); h++) {
                if ((set >> h & 1) == 1) {
                    by.add(f.hearers.get(h));
                }
            }
            boolean enough = best == -1 || Integer.bitCount(set) < Integer.bitCount(best);
            for (int d = 0; d < f.n && enough; d++) {
                for (int e = 0; e < f.n && enough; e++) {
                    enough = !twin(d, e, by);
                }
            }
            best = enough ? set : best;
        }
        return best;
    }

    public int lose(int h) {
        if (h < 0 || h >= f.hearers.size()) {
            return -1;
        }
        f.hearers.remove(h);
        return f.hearers.size();
    }

    /** All rising rows of k of 0 .. n less 1, the lesser first. */
    static List<int[]> choices(int k, int n) {
        List<int[]> all = new ArrayList<>();
        if (k == 0) {
            all.add(new int[0]);
            return all;
        }
        for (int[] less : choices(k - 1, n)) {
            for (int last = k == 1 ? 0 : less[k - 2] + 1; last < n; last++) {
                int[] more = Arrays.copyOf(less, k);
                more[k - 1] = last;
                all.add(more);
            }
        }
        return all;
    }

    /** The columns of these directions, at the hearers heard alone. */
    List<long[]> columns(int[] directions, List<Integer> heard) {
        List<long[]> columns = new ArrayList<>();
        for (int d : directions) {
            columns.add(only(column(d), heard));
        }
        return columns;
    }

    static long[] only(long[] row, List<Integer> heard) {
        return heard.stream().mapToLong(h -> row[h]).toArray();
    }

    public int fewest() {
        long[] r = given();
        if (r == null || r.length != f.hearers.size()) {
            return -2;
        }
        List<Integer> heard = new ArrayList<>();
        for (int h = 0; h < r.length; h++) {
            heard.add(h);
        }
        for (int k = 0; k <= 3; k++) {
            int sets = 0;
            int[] first = null;
            for (int[] set : choices(k, f.n)) {
                if (madeOf(r, columns(set, heard), p())) {
                    sets++;
                    first = first == null ? set : first;
                }
            }
            if (sets > 0) {
                made = first;
                madeSets = sets;
                madeBy = numbers(columns(first, heard), r, p());
                return k;
            }
        }
        return -1;
    }

    public int made(int k) {
        return k == -1 ? madeSets : made == null || k < 0 || k >= made.length ? -1 : made[k];
    }

    public int madeBy(int k) {
        return k < 0 || k >= madeBy.length ? -1 : (int) madeBy[k];
    }

    public int liars(int k) {
        long[] r = given();
        if (r == null || r.length != f.hearers.size() || k < 0 || k > 2) {
            return -2;
        }
        for (int many = 0; many <= 2; many++) {
            int sets = 0;
            int[] first = null;
            for (int[] set : choices(many, r.length)) {
                List<Integer> heard = new ArrayList<>();
                for (int h = 0; h < r.length; h++) {
                    int it = h;
                    if (Arrays.stream(set).noneMatch(x -> x == it)) {
                        heard.add(h);
                    }
                }
                if (madeByAtMost(k, r, heard)) {
                    sets++;
                    first = first == null ? set : first;
                }
            }
            if (sets > 0) {
                liar = first;
                liarSets = sets;
                return many;
            }
        }
        return -1;
    }

    private boolean madeByAtMost(int most, long[] r, List<Integer> heard) {
        for (int k = 0; k <= most; k++) {
            for (int[] set : choices(k, f.n)) {
                if (madeOf(only(r, heard), columns(set, heard), p())) {
                    return true;
                }
            }
        }
        return false;
    }

    public int liar(int k) {
        return k == -1 ? liarSets : liar == null || k < 0 || k >= liar.length ? -1 : liar[k];
    }

    public boolean nulled() {
        List<Integer> told = new ArrayList<>(tape);
        tape.clear();
        if (told.isEmpty() || told.size() > 7 || new HashSet<>(told).size() < told.size()
            || told.stream().anyMatch(d -> d >= f.n)) {
            return false;
        }
        List<long[]> columns = new ArrayList<>();
        for (int h = 0; h < f.hearers.size(); h++) {
            int it = h;
            columns.add(told.stream().mapToLong(d -> column(d)[it]).toArray());
        }
        long[] goal = new long[told.size()];
        goal[0] = 1;
        long[] answer = numbers(columns, goal, p());
        if (answer == null) {
            return false;
        }
        nulls = answer;
        return true;
    }

    public int number(int h) {
        return h < 0 || h >= nulls.length ? -1 : (int) nulls[h];
    }

    public int comes(int d) {
        if (d < 0 || d >= f.n || nulls.length == 0 || nulls.length != f.hearers.size()) {
            return -1;
        }
        long sum = 0;
        for (int h = 0; h < nulls.length; h++) {
            sum += nulls[h] * column(d)[h];
        }
        return (int) (sum % p());
    }

    public boolean mend(int d) {
        long[] r = given();
        if (r == null || r.length != f.hearers.size() || r.length == 0 || d < 0 || d >= f.n || r[0] == 0) {
            return false;
        }
        List<Hearer> mended = new ArrayList<>();
        for (int h = 0; h < r.length; h++) {
            long own = r[h] * inverse(w(d, f.hearers.get(h).place()), p()) % p();
            long first = r[0] * inverse(w(d, f.hearers.get(0).place()), p()) % p();
            long gain = own * inverse(first, p()) % p() * f.hearers.get(0).gain() % p();
            mended.add(new Hearer(f.hearers.get(h).place(), gain));
        }
        f.hearers = mended;
        return true;
    }

    // ---- bearings

    /** Where they cross, as the crossing of two lines that lies ahead on both; null if they don't. */
    Point meet(int a, int b) {
        int m = f.bearings.size();
        if (a < 0 || b < 0 || a >= m || b >= m || f.bearings.get(a).station() == f.bearings.get(b).station()) {
            return null;
        }
        // The line of a bearing: dy x - dx y = e.
        BigInteger[] p = line(a);
        BigInteger[] q = line(b);
        BigInteger det = p[0].multiply(q[1]).subtract(p[1].multiply(q[0]));
        if (det.signum() == 0) {
            return null;
        }
        BigInteger x = p[2].multiply(q[1]).subtract(p[1].multiply(q[2]));
        BigInteger y = p[0].multiply(q[2]).subtract(p[2].multiply(q[0]));
        BigInteger[] fx = least(x, det);
        BigInteger[] fy = least(y, det);
        Point at = new Point(fx[0], fx[1], fy[0], fy[1]);
        return passes(a, at) && passes(b, at) ? at : null;
    }

    static BigInteger[] least(BigInteger above, BigInteger below) {
        BigInteger g = above.gcd(below).multiply(BigInteger.valueOf(below.signum()));
        return new BigInteger[] {above.divide(g), below.divide(g)};
    }

    BigInteger[] line(int b) {
        Bearing z = f.bearings.get(b);
        Station s = f.stations.get(z.station());
        return new BigInteger[] {BigInteger.valueOf(z.dy()), BigInteger.valueOf(-z.dx()),
            BigInteger.valueOf((long) z.dy() * s.x() - (long) z.dx() * s.y())};
    }

    /** Whether the bearing goes through the point: the times of its step are the same above 0 by X and by Y. */
    boolean passes(int b, Point at) {
        Bearing z = f.bearings.get(b);
        Station s = f.stations.get(z.station());
        BigInteger wayX = at.xa().subtract(at.xb().multiply(BigInteger.valueOf(s.x())));
        BigInteger wayY = at.ya().subtract(at.yb().multiply(BigInteger.valueOf(s.y())));
        if (z.dx() == 0 || z.dy() == 0) {
            BigInteger still = z.dx() == 0 ? wayX : wayY;
            BigInteger on = z.dx() == 0 ? wayY : wayX;
            return still.signum() == 0 && on.signum() == Integer.signum(z.dx() + z.dy());
        }
        BigInteger[] timesX = least(wayX, at.xb().multiply(BigInteger.valueOf(z.dx())));
        BigInteger[] timesY = least(wayY, at.yb().multiply(BigInteger.valueOf(z.dy())));
        return timesX[0].equals(timesY[0]) && timesX[1].equals(timesY[1]) && timesX[0].signum() > 0;
    }

    public long cross(int a, int b, int what) {
        Point at = meet(a, b);
        if (at == null || what < 0 || what > 3) {
            throw new NoSuchElementException();
        }
        return (what == 0 ? at.xa() : what == 1 ? at.xb() : what == 2 ? at.ya() : at.yb()).longValueExact();
    }

    int bits(Point at) {
        int bits = 0;
        for (int b = 0; b < f.bearings.size(); b++) {
            bits |= passes(b, at) ? 1 << b : 0;
        }
        return bits;
    }

    public int through(int a, int b) {
        return meet(a, b) == null ? -1 : bits(meet(a, b));
    }

    public int fix() {
        int m = f.bearings.size();
        Map<Point, Integer> points = new LinkedHashMap<>();
        Set<Integer> crossing = new HashSet<>();
        for (int a = 0; a < m; a++) {
            for (int b = a + 1; b < m; b++) {
                if (meet(a, b) != null) {
                    points.putIfAbsent(meet(a, b), 10 * a + b);
                    crossing.addAll(List.of(a, b));
                }
            }
        }
        if (crossing.size() < m) {
            return -1;
        }
        List<Point> all = new ArrayList<>(points.keySet());
        int[] bits = all.stream().mapToInt(this::bits).toArray();
        for (int many = 0; ; many++) {
            for (int[] set : choices(many, all.size())) {
                int together = 0;
                for (int i : set) {
                    together |= bits[i];
                }
                if (together == (1 << m) - 1) {
                    fixes = new ArrayList<>();
                    for (int i : set) {
                        fixes.add(points.get(all.get(i)));
                    }
                    return many;
                }
            }
        }
    }

    public int fixAt(int i) {
        return i < 0 || i >= fixes.size() ? -1 : fixes.get(i);
    }

    // ---- images and counts

    public boolean image(int k) {
        if (k != 0 && k != 1) {
            return false;
        }
        images.put(k, f.copy());
        return true;
    }

    public boolean restore(int k) {
        if (!images.containsKey(k)) {
            return false;
        }
        f = images.get(k).copy();
        return true;
    }

    public int count(int what) {
        int[] all = {f.n, (int) p(), (int) lattice(f.n)[1], f.hearers.size(), f.senders.size(), f.stations.size(),
            f.bearings.size(), f.moment, tape.size()};
        return what < 0 || what >= all.length ? -1 : all[what];
    }
}

import java.util.NoSuchElementException;

/** Waves on a row of hearers, counted in whole numbers by a prime. The promises named are those of DOC.md. */
public final class WaveRows {
    public static final int NONE = -1;

    private static final int NOT_AS_MANY = -2;
    private static final int MOST_DIRECTIONS = 60;
    private static final int USUAL_DIRECTIONS = 12;
    private static final int MOST_HEARERS = 10;
    private static final int MOST_SENDERS = 6;
    private static final int MOST_STATIONS = 4;
    private static final int MOST_BEARINGS = 8;
    private static final int MOST_PLACE = 99;
    private static final int MOST_GAIN = 999;
    private static final int MOST_MOMENT = 999;
    private static final int MOST_MADE = 3;
    private static final int MOST_LIARS = 2;
    private static final int MOST_TRUE_DIRECTIONS = 2;
    private static final int MOST_TRACKED = 8;
    private static final int MOST_TOLD_TO_NULL = 7;
    private static final int IMAGES = 2;
    // Each lag above 0 takes a pair of its own, and ten hearers make 45 pairs.
    private static final int MOST_LAGS = 46;

    private final Tape tape = new Tape();
    private final Reader reader = new Reader();
    private Scene now = new Scene();
    private Scene draft = new Scene();
    private final Scene[] images = new Scene[IMAGES];
    private final boolean[] kept = new boolean[IMAGES];
    private final Rows rows = new Rows();
    private final RuleFinder rules = new RuleFinder();
    private final Makers makers = new Makers();
    private final Fixer fixer = new Fixer();
    private final int[] readings = new int[MOST_HEARERS];
    private final Told tracked = new Told(3);
    private final Told maker = new Told(MOST_MADE);
    private final Told makerNumber = new Told(MOST_MADE);
    private int makerSets = NONE;
    private final Told lying = new Told(MOST_LIARS);
    private int lyingSets = NONE;
    private final Told nulls = new Told(MOST_HEARERS);

    public WaveRows() {
        for (int k = 0; k < IMAGES; k++) {
            images[k] = new Scene();
        }
    }

    public int feed(int a, int b, int c, int d, int e) {
        if (!tape.hasRoom()) {
            return NONE;
        }
        tape.put(a);
        tape.put(b);
        tape.put(c);
        tape.put(d);
        tape.put(e);
        return tape.length;
    }

    public boolean end(int n) {
        if (n < 0 || n > tape.length) {
            return false;
        }
        tape.length = n;
        return true;
    }

    public int field() {
        int lines = reader.readInto(draft, tape);
        tape.length = 0;
        if (lines == NONE) {
            return -1 - reader.faultPlace;
        }
        Scene old = now;
        now = draft;
        draft = old;
        return lines;
    }

    public int fault() {
        return reader.faultKind;
    }

    public int hearer(int h, int what) throws NoSuchElementException {
        if (!now.hasHearer(h) || what < 0 || what > 1) {
            throw new NoSuchElementException();
        }
        return what == 0 ? now.place[h] : now.gain[h];
    }

    public int sender(int s, int what) throws NoSuchElementException {
        if (s < 0 || s >= now.senders || what < 0 || what > 3) {
            throw new NoSuchElementException();
        }
        switch (what) {
            case 0:
                return now.directionOf(s);
            case 1:
                return now.loudness[s];
            case 2:
                return now.drift[s];
            default:
                return now.flock[s];
        }
    }

    public boolean moment(int t) {
        if (t < 0 || t > MOST_MOMENT) {
            return false;
        }
        now.moment = t;
        return true;
    }

    public int wave(int d, int p) {
        if (!now.lattice.has(d) || p < 0 || p > MOST_PLACE) {
            return NONE;
        }
        return now.lattice.waveAt(d, p);
    }

    public int reading(int h) {
        return now.hasHearer(h) ? now.readingOf(h) : NONE;
    }

    public int cover(int i, int j) {
        return now.hasHearer(i) && now.hasHearer(j) ? now.coverOf(i, j) : NONE;
    }

    public int order() {
        int n = now.hearers;
        fillCover(n);
        return rows.reduce(n, n, n, now.lattice.prime);
    }

    public long seen() {
        int n = now.hearers;
        fillCover(n);
        for (int h = 0; h < n; h++) {
            for (int d = 0; d < now.lattice.directions; d++) {
                rows.cell[h][n + d] = now.gainedWave(h, d);
            }
        }
        return rows.columnsMade(n, now.lattice);
    }

    public long twins(int d) {
        return now.lattice.has(d) ? now.twinsOf(d) : NONE;
    }

    public int smoothed(int n) {
        if (!canSmooth(n)) {
            return NONE;
        }
        fillCover(n);
        return rows.reduce(n, n, n, now.lattice.prime);
    }

    public long smoothSeen(int n) {
        if (!canSmooth(n)) {
            return NONE;
        }
        fillCover(n);
        for (int k = 0; k < n; k++) {
            for (int d = 0; d < now.lattice.directions; d++) {
                rows.cell[k][n + d] = now.lattice.waveAt(d, k);
            }
        }
        return rows.columnsMade(n, now.lattice);
    }

    public int apart(int l) {
        return l < 0 || l > MOST_PLACE ? NONE : now.pairsApart(l);
    }

    public int run() {
        return now.longestRun();
    }

    public int lag(int l) {
        return l < 0 || l > MOST_PLACE || now.pairsApart(l) == 0 ? NONE : now.lagOf(l);
    }

    public int rule(int what) {
        if (now.hearers == 0 || what < 0 || what > 1) {
            return NONE;
        }
        if (what == 0 && !now.standsEven()) {
            return NONE;
        }
        int many = what == 0 ? now.hearers : now.longestRun() + 1;
        for (int t = 0; t < many && t < MOST_LAGS; t++) {
            rules.row[t] = what == 0 ? now.readingOf(t) : now.lagOf(t);
        }
        rules.find(many, now.lattice, rows);
        return rules.steps.size;
    }

    public int ruleAt(int k) {
        return k < 1 ? NONE : rules.steps.at(k - 1);
    }

    public long roots() {
        return rules.rootBits;
    }

    public int strength(int k) {
        return rules.strengths.at(k);
    }

    public int tracks(int h) {
        int many = takeReadings();
        if (!now.hasHearer(h) || many < 1 || many > MOST_TRACKED) {
            return NONE;
        }
        Lattice lattice = now.lattice;
        if (now.gain[h] == 0) {
            return tracksOfDeaf(many);
        }
        int drifts = 0;
        int first = NONE;
        for (int v = 0; v < lattice.directions; v++) {
            if (driftFits(v, now.place[h], many)) {
                drifts++;
                first = first == NONE ? v : first;
            }
        }
        if (drifts > 0) {
            int amount = product(readings[0], inverse(now.gain[h], lattice.prime), lattice.prime);
            tellTrack(first, amount);
        }
        // Another D at the start only asks for another A, so each D does as well as 0.
        return drifts * lattice.directions;
    }

    public int track(int what) {
        return tracked.at(what);
    }

    public int enough() {
        int best = NONE;
        int fewest = MOST_HEARERS + 1;
        for (int set = 0; set < 1 << now.hearers; set++) {
            int many = Integer.bitCount(set);
            if (many < fewest && now.partsAll(set)) {
                best = set;
                fewest = many;
            }
        }
        return best;
    }

    public int lose(int h) {
        if (!now.hasHearer(h)) {
            return NONE;
        }
        now.dropHearer(h);
        return now.hearers;
    }

    public int fewest() {
        if (takeReadings() != now.hearers) {
            return NOT_AS_MANY;
        }
        makers.hear(now, readings);
        makers.hearAllBut(NONE, NONE);
        int k = makers.fewestUpTo(MOST_MADE, false);
        if (k == NONE) {
            return NONE;
        }
        makerSets = makers.sets;
        maker.size = k;
        for (int i = 0; i < k; i++) {
            maker.item[i] = makers.found[i];
        }
        findMakerNumbers(k);
        return k;
    }

    public int made(int k) {
        return k == NONE ? makerSets : maker.at(k);
    }

    public int madeBy(int k) {
        return makerNumber.at(k);
    }

    public int liars(int k) {
        if (takeReadings() != now.hearers || k < 0 || k > MOST_TRUE_DIRECTIONS) {
            return NOT_AS_MANY;
        }
        makers.hear(now, readings);
        for (int many = 0; many <= MOST_LIARS; many++) {
            if (findLiars(many, k)) {
                return many;
            }
        }
        return NONE;
    }

    public int liar(int k) {
        return k == NONE ? lyingSets : lying.at(k);
    }

    public boolean nulled() {
        int many = tape.length;
        tape.length = 0;
        if (many < 1 || many > MOST_TOLD_TO_NULL || !unlikeDirections(many)) {
            return false;
        }
        for (int r = 0; r < many; r++) {
            for (int h = 0; h < now.hearers; h++) {
                rows.cell[r][h] = now.gainedWave(h, tape.bytes[r]);
            }
            rows.cell[r][now.hearers] = r == 0 ? 1 : 0;
        }
        return rows.solve(many, now.hearers, now.lattice.prime, nulls);
    }

    public int number(int h) {
        return nulls.at(h);
    }

    public int comes(int d) {
        if (!now.lattice.has(d) || nulls.size == 0 || nulls.size != now.hearers) {
            return NONE;
        }
        int prime = now.lattice.prime;
        int sum = 0;
        for (int h = 0; h < now.hearers; h++) {
            sum = (sum + product(nulls.item[h], now.gainedWave(h, d), prime)) % prime;
        }
        return sum;
    }

    public boolean mend(int d) {
        int many = takeReadings();
        if (many != now.hearers || many == 0 || !now.lattice.has(d) || readings[0] == 0) {
            return false;
        }
        int prime = now.lattice.prime;
        int first = product(readings[0], now.lattice.waveBack(d, now.place[0]), prime);
        int share = product(now.gain[0], inverse(first, prime), prime);
        for (int h = 0; h < many; h++) {
            int still = product(readings[h], now.lattice.waveBack(d, now.place[h]), prime);
            now.gain[h] = product(still, share, prime);
        }
        return true;
    }

    public long cross(int a, int b, int what) throws NoSuchElementException {
        if (what < 0 || what > 3 || !now.compass.meet(a, b)) {
            throw new NoSuchElementException();
        }
        long above = what < 2 ? now.compass.aboveX : now.compass.aboveY;
        long common = commonMeasure(above, now.compass.below);
        return (what & 1) == 0 ? above / common : now.compass.below / common;
    }

    public int fix() {
        return fixer.find(now.compass);
    }

    public int fixAt(int i) {
        return fixer.told.at(i);
    }

    public int through(int a, int b) {
        return now.compass.meet(a, b) ? now.compass.throughMeeting() : NONE;
    }

    public boolean image(int k) {
        if (k < 0 || k >= IMAGES) {
            return false;
        }
        images[k].copy(now);
        kept[k] = true;
        return true;
    }

    public boolean restore(int k) {
        if (k < 0 || k >= IMAGES || !kept[k]) {
            return false;
        }
        now.copy(images[k]);
        return true;
    }

    public int count(int what) {
        switch (what) {
            case 0:
                return now.lattice.directions;
            case 1:
                return now.lattice.prime;
            case 2:
                return now.lattice.root;
            case 3:
                return now.hearers;
            case 4:
                return now.senders;
            case 5:
                return now.compass.stations;
            case 6:
                return now.compass.bearings;
            case 7:
                return now.moment;
            case 8:
                return tape.length;
            default:
                return NONE;
        }
    }

    /** COVER smoothed by n: with n as many as there are hearers it is COVER itself. */
    private void fillCover(int n) {
        int prime = now.lattice.prime;
        for (int k = 0; k < n; k++) {
            for (int l = 0; l < n; l++) {
                int sum = 0;
                for (int s = 0; s + n <= now.hearers; s++) {
                    sum = (sum + now.coverOf(k + s, l + s)) % prime;
                }
                rows.cell[k][l] = sum;
            }
        }
    }

    private boolean canSmooth(int n) {
        return n >= 1 && n <= now.hearers && now.standsEven();
    }

    /** Empties the tape into the readings; NONE if it has half a reading or more than fit. */
    private int takeReadings() {
        int length = tape.length;
        tape.length = 0;
        if (length % 2 != 0 || length / 2 > MOST_HEARERS) {
            return NONE;
        }
        for (int i = 0; i < length / 2; i++) {
            readings[i] = (tape.bytes[2 * i] * 256 + tape.bytes[2 * i + 1]) % now.lattice.prime;
        }
        return length / 2;
    }

    private boolean driftFits(int v, int place, int many) {
        Lattice lattice = now.lattice;
        for (int t = 1; t < many; t++) {
            int turned = lattice.waveAt(v * t % lattice.directions, place);
            if (readings[t] != product(readings[0], turned, lattice.prime)) {
                return false;
            }
        }
        return true;
    }

    /** A hearer without gain hears nothing from any direction and drift. */
    private int tracksOfDeaf(int many) {
        for (int t = 0; t < many; t++) {
            if (readings[t] != 0) {
                return 0;
            }
        }
        tellTrack(0, 0);
        return now.lattice.directions * now.lattice.directions;
    }

    private void tellTrack(int drift, int amount) {
        tracked.size = 3;
        tracked.item[0] = 0;
        tracked.item[1] = drift;
        tracked.item[2] = amount;
    }

    private void findMakerNumbers(int k) {
        for (int h = 0; h < now.hearers; h++) {
            for (int i = 0; i < k; i++) {
                rows.cell[h][i] = now.gainedWave(h, maker.item[i]);
            }
            rows.cell[h][k] = readings[h];
        }
        rows.solve(now.hearers, k, now.lattice.prime, makerNumber);
    }

    /** Where fewer than two are to lie, the loops for those that aren't there go round once. */
    private boolean findLiars(int many, int k) {
        int sets = 0;
        int firstOuts = many > 0 ? now.hearers : 1;
        for (int a = 0; a < firstOuts; a++) {
            int secondOuts = many > 1 ? now.hearers : a + 2;
            for (int b = a + 1; b < secondOuts; b++) {
                makers.hearAllBut(many > 0 ? a : NONE, many > 1 ? b : NONE);
                if (makers.fewestUpTo(k, true) != NONE) {
                    sets++;
                    if (sets == 1) {
                        tellLiars(many, a, b);
                    }
                }
            }
        }
        if (sets > 0) {
            lyingSets = sets;
        }
        return sets > 0;
    }

    private void tellLiars(int many, int a, int b) {
        lying.size = many;
        lying.item[0] = a;
        lying.item[1] = b;
    }

    private boolean unlikeDirections(int many) {
        long met = 0;
        for (int i = 0; i < many; i++) {
            int d = tape.bytes[i];
            if (!now.lattice.has(d) || (met >> d & 1) != 0) {
                return false;
            }
            met |= 1L << d;
        }
        return true;
    }

    private static int product(int a, int b, int prime) {
        return (int) ((long) a * b % prime);
    }

    private static int difference(int a, int b, int prime) {
        return a >= b ? a - b : a - b + prime;
    }

    /** By Fermat: a to the power of the prime less 2. */
    private static int inverse(int a, int prime) {
        int answer = 1;
        int square = a;
        for (int left = prime - 2; left > 0; left >>= 1) {
            if ((left & 1) == 1) {
                answer = product(answer, square, prime);
            }
            square = product(square, square, prime);
        }
        return answer;
    }

    /** The greatest common measure; b is above 0, and so is the answer. */
    private static long commonMeasure(long a, long b) {
        long greater = Math.abs(a);
        long lesser = b;
        for (int step = 0; step < 200 && lesser != 0; step++) {
            long left = greater % lesser;
            greater = lesser;
            lesser = left;
        }
        return greater;
    }

    /** A row of numbers that a call told last; with none in it ahead of any. */
    private static final class Told {
        final int[] item;
        int size;

        Told(int most) {
            item = new int[most];
        }

        int at(int i) {
            return i >= 0 && i < size && i < item.length ? item[i] : NONE;
        }
    }

    private static final class Tape {
        private static final int MOST_BYTES = 940;
        private static final int FED_AT_ONCE = 20;

        final int[] bytes = new int[MOST_BYTES];
        int length;

        boolean hasRoom() {
            return length + FED_AT_ONCE <= MOST_BYTES;
        }

        void put(int number) {
            for (int shift = 24; shift >= 0 && length < MOST_BYTES; shift -= 8) {
                bytes[length] = number >>> shift & 255;
                length++;
            }
        }
    }

    /** The directions of a field, its prime and its waves. */
    private static final class Lattice {
        private static final int BELOW_PRIME = 1000;
        private static final int FAR = 1000000;

        int directions;
        int prime;
        int root;
        private final int[] power = new int[MOST_DIRECTIONS];

        Lattice() {
            spread(USUAL_DIRECTIONS);
        }

        void spread(int n) {
            if (n == directions || n < 2 || n > MOST_DIRECTIONS) {
                return;
            }
            directions = n;
            prime = primeFor(n);
            root = rootFor(n, prime);
            power[0] = 1;
            for (int k = 1; k < n; k++) {
                power[k] = product(power[k - 1], root, prime);
            }
        }

        void copy(Lattice other) {
            directions = other.directions;
            prime = other.prime;
            root = other.root;
            System.arraycopy(other.power, 0, power, 0, MOST_DIRECTIONS);
        }

        boolean has(int d) {
            return d >= 0 && d < directions;
        }

        int waveAt(int d, int place) {
            return power[d * place % directions];
        }

        /** What undoes the wave: that of the direction turned round. */
        int waveBack(int d, int place) {
            return power[(directions - d) * place % directions];
        }

        private static int primeFor(int n) {
            for (int p = BELOW_PRIME + 1; p < FAR; p++) {
                if ((p - 1) % n == 0 && isPrime(p)) {
                    return p;
                }
            }
            return BELOW_PRIME + 1;
        }

        private static boolean isPrime(int p) {
            for (int f = 2; f * f <= p; f++) {
                if (p % f == 0) {
                    return false;
                }
            }
            return true;
        }

        private static int rootFor(int n, int p) {
            for (int w = 2; w < p; w++) {
                if (comesRoundFirstAt(w, n, p)) {
                    return w;
                }
            }
            return 1;
        }

        private static boolean comesRoundFirstAt(int w, int n, int p) {
            int power = w;
            for (int k = 1; k < n; k++) {
                if (power == 1) {
                    return false;
                }
                power = product(power, w, p);
            }
            return power == 1;
        }
    }

    /** A FIELD and its moment. */
    private static final class Scene {
        final Lattice lattice = new Lattice();
        final Compass compass = new Compass();
        int moment;
        int hearers;
        final int[] place = new int[MOST_HEARERS];
        final int[] gain = new int[MOST_HEARERS];
        int senders;
        final int[] start = new int[MOST_SENDERS];
        final int[] loudness = new int[MOST_SENDERS];
        final int[] drift = new int[MOST_SENDERS];
        final int[] flock = new int[MOST_SENDERS];

        void clear() {
            moment = 0;
            hearers = 0;
            senders = 0;
            compass.stations = 0;
            compass.bearings = 0;
        }

        void copy(Scene other) {
            lattice.copy(other.lattice);
            compass.copy(other.compass);
            moment = other.moment;
            hearers = other.hearers;
            System.arraycopy(other.place, 0, place, 0, MOST_HEARERS);
            System.arraycopy(other.gain, 0, gain, 0, MOST_HEARERS);
            senders = other.senders;
            System.arraycopy(other.start, 0, start, 0, MOST_SENDERS);
            System.arraycopy(other.loudness, 0, loudness, 0, MOST_SENDERS);
            System.arraycopy(other.drift, 0, drift, 0, MOST_SENDERS);
            System.arraycopy(other.flock, 0, flock, 0, MOST_SENDERS);
        }

        void addHearer(int at, int strength) {
            if (hearers < MOST_HEARERS) {
                place[hearers] = at;
                gain[hearers] = strength;
                hearers++;
            }
        }

        void addSender(int from, int amount, int drifts, int like) {
            if (senders < MOST_SENDERS) {
                start[senders] = from;
                loudness[senders] = amount;
                drift[senders] = drifts;
                flock[senders] = like < 0 || like >= senders ? senders : flock[like];
                senders++;
            }
        }

        void dropHearer(int lost) {
            for (int h = lost; h + 1 < hearers; h++) {
                place[h] = place[h + 1];
                gain[h] = gain[h + 1];
            }
            hearers--;
        }

        boolean hasHearer(int h) {
            return h >= 0 && h < hearers;
        }

        boolean hasPlace(int p) {
            for (int h = 0; h < hearers; h++) {
                if (place[h] == p) {
                    return true;
                }
            }
            return false;
        }

        int directionOf(int s) {
            return (start[s] + drift[s] * moment) % lattice.directions;
        }

        int gainedWave(int h, int d) {
            return product(gain[h], lattice.waveAt(d, place[h]), lattice.prime);
        }

        int readingOf(int h) {
            int sum = 0;
            for (int s = 0; s < senders; s++) {
                sum += product(loudness[s], lattice.waveAt(directionOf(s), place[h]), lattice.prime);
            }
            return product(gain[h], sum, lattice.prime);
        }

        int coverOf(int i, int j) {
            int gains = product(gain[i], gain[j], lattice.prime);
            return product(gains, coverWithoutGains(place[i], place[j]), lattice.prime);
        }

        private int coverWithoutGains(int p, int q) {
            int sum = 0;
            for (int f = 0; f < senders; f++) {
                if (flock[f] == f) {
                    sum += flockCover(f, p, q);
                }
            }
            return sum % lattice.prime;
        }

        private int flockCover(int f, int p, int q) {
            int out = 0;
            int back = 0;
            for (int s = f; s < senders; s++) {
                if (flock[s] == f) {
                    int d = directionOf(s);
                    out += product(loudness[s], lattice.waveAt(d, p), lattice.prime);
                    back += product(loudness[s], lattice.waveBack(d, q), lattice.prime);
                }
            }
            return product(out, back, lattice.prime);
        }

        long twinsOf(int d) {
            long twins = 0;
            for (int e = 0; e < lattice.directions; e++) {
                if (e != d && noHearerParts(Math.abs(e - d))) {
                    twins |= 1L << e;
                }
            }
            return twins;
        }

        private boolean noHearerParts(int turn) {
            for (int h = 1; h < hearers; h++) {
                if (turn * (place[h] - place[0]) % lattice.directions != 0) {
                    return false;
                }
            }
            return true;
        }

        /** Whether no direction has a twin for the hearers of the set: no turn goes unheard between their places. */
        boolean partsAll(int set) {
            int first = Integer.numberOfTrailingZeros(set);
            long measure = lattice.directions;
            for (int h = first + 1; h < hearers; h++) {
                if ((set >> h & 1) == 1) {
                    measure = commonMeasure(place[h] - place[first], measure);
                }
            }
            return measure == 1;
        }

        boolean standsEven() {
            for (int h = 1; h < hearers; h++) {
                if (place[h] != place[h - 1] + 1) {
                    return false;
                }
            }
            return true;
        }

        int pairsApart(int l) {
            int pairs = 0;
            for (int i = 0; i < hearers; i++) {
                if (partner(i, l) != NONE) {
                    pairs++;
                }
            }
            return pairs;
        }

        /** The hearer that stands l places ahead of hearer i. */
        private int partner(int i, int l) {
            for (int j = 0; j < hearers; j++) {
                if (place[i] - place[j] == l) {
                    return j;
                }
            }
            return NONE;
        }

        int longestRun() {
            int l = 0;
            while (l < MOST_LAGS && pairsApart(l) > 0) {
                l++;
            }
            return l - 1;
        }

        int lagOf(int l) {
            for (int i = 0; i < hearers; i++) {
                int j = partner(i, l);
                if (j != NONE) {
                    return gain[i] == 0 || gain[j] == 0 ? 0 : coverWithoutGains(place[i], place[j]);
                }
            }
            return NONE;
        }
    }

    /** Stations and their bearings, and where two bearings cross. */
    private static final class Compass {
        int stations;
        final int[] x = new int[MOST_STATIONS];
        final int[] y = new int[MOST_STATIONS];
        int bearings;
        final int[] from = new int[MOST_BEARINGS];
        final int[] stepX = new int[MOST_BEARINGS];
        final int[] stepY = new int[MOST_BEARINGS];
        // The point of the latest meeting: both numbers stand above the same one, which is above 0.
        long aboveX;
        long aboveY;
        long below = 1;

        void copy(Compass other) {
            stations = other.stations;
            System.arraycopy(other.x, 0, x, 0, MOST_STATIONS);
            System.arraycopy(other.y, 0, y, 0, MOST_STATIONS);
            bearings = other.bearings;
            System.arraycopy(other.from, 0, from, 0, MOST_BEARINGS);
            System.arraycopy(other.stepX, 0, stepX, 0, MOST_BEARINGS);
            System.arraycopy(other.stepY, 0, stepY, 0, MOST_BEARINGS);
        }

        void addStation(int atX, int atY) {
            if (stations < MOST_STATIONS) {
                x[stations] = atX;
                y[stations] = atY;
                stations++;
            }
        }

        void addBearing(int station, int dx, int dy) {
            if (bearings < MOST_BEARINGS) {
                from[bearings] = station;
                stepX[bearings] = dx;
                stepY[bearings] = dy;
                bearings++;
            }
        }

        private boolean hasBearing(int b) {
            return b >= 0 && b < bearings;
        }

        /** Whether bearings a, b cross; then their point is kept. */
        boolean meet(int a, int b) {
            if (!hasBearing(a) || !hasBearing(b) || from[a] == from[b]) {
                return false;
            }
            long turn = (long) stepX[a] * stepY[b] - (long) stepY[a] * stepX[b];
            long wayX = x[from[b]] - x[from[a]];
            long wayY = y[from[b]] - y[from[a]];
            long alongA = wayX * stepY[b] - wayY * stepX[b];
            long alongB = wayX * stepY[a] - wayY * stepX[a];
            if (turn < 0) {
                turn = -turn;
                alongA = -alongA;
                alongB = -alongB;
            }
            if (turn == 0 || alongA <= 0 || alongB <= 0) {
                return false;
            }
            below = turn;
            aboveX = x[from[a]] * turn + alongA * stepX[a];
            aboveY = y[from[a]] * turn + alongA * stepY[a];
            return true;
        }

        int throughMeeting() {
            int bits = 0;
            for (int b = 0; b < bearings; b++) {
                long wayX = aboveX - x[from[b]] * below;
                long wayY = aboveY - y[from[b]] * below;
                if (wayX * stepY[b] == wayY * stepX[b] && wayX * stepX[b] + wayY * stepY[b] > 0) {
                    bits |= 1 << b;
                }
            }
            return bits;
        }
    }

    /** The fewest crossings that touch each bearing. */
    private static final class Fixer {
        private static final int MOST_POINTS = MOST_BEARINGS * (MOST_BEARINGS - 1) / 2;

        final Told told = new Told(MOST_BEARINGS);
        private int points;
        private final int[] pair = new int[MOST_POINTS];
        private final int[] touched = new int[MOST_POINTS];
        private final int[] chosen = new int[MOST_BEARINGS];
        private int all;

        int find(Compass compass) {
            listPoints(compass);
            all = (1 << compass.bearings) - 1;
            if (touchedTogether() != all) {
                return NONE;
            }
            for (int many = 0; many <= MOST_BEARINGS; many++) {
                if (touchesAll(0, 0, many, 0)) {
                    told.size = many;
                    System.arraycopy(chosen, 0, told.item, 0, many);
                    return many;
                }
            }
            return NONE;
        }

        /** A bearing through a point where two others cross crosses at least one of them there. */
        private int touchedTogether() {
            int bits = 0;
            for (int i = 0; i < points; i++) {
                bits |= touched[i];
            }
            return bits;
        }

        private void listPoints(Compass compass) {
            points = 0;
            for (int a = 0; a < compass.bearings; a++) {
                for (int b = a + 1; b < compass.bearings; b++) {
                    if (compass.meet(a, b)) {
                        listPoint(10 * a + b, compass.throughMeeting());
                    }
                }
            }
        }

        /** Two points touched by the same bearings are one, as two bearings cross but once. */
        private void listPoint(int name, int bearings) {
            for (int i = 0; i < points; i++) {
                if (touched[i] == bearings) {
                    return;
                }
            }
            if (points < MOST_POINTS) {
                pair[points] = name;
                touched[points] = bearings;
                points++;
            }
        }

        private boolean touchesAll(int depth, int next, int many, int bits) {
            if (depth >= many || depth >= MOST_BEARINGS) {
                return bits == all;
            }
            for (int i = next; i < points; i++) {
                // In a least set each point touches a bearing that no other point of it does.
                if ((touched[i] & ~bits) != 0) {
                    chosen[depth] = pair[i];
                    if (touchesAll(depth + 1, i + 1, many, bits | touched[i])) {
                        return true;
                    }
                }
            }
            return false;
        }
    }

    /** Room for rows of numbers by a prime, and what is made of what in them. */
    private static final class Rows {
        private static final int MOST_COLUMNS = MOST_HEARERS + MOST_DIRECTIONS;

        final int[][] cell = new int[MOST_LAGS][MOST_COLUMNS];
        private final int[] lead = new int[MOST_LAGS];

        /** Reduces by the columns ahead of upTo, so that each leading one is 1 in its row alone: how many lead. */
        int reduce(int height, int width, int upTo, int prime) {
            int rank = 0;
            for (int c = 0; c < upTo && rank < height; c++) {
                int found = rowWith(c, rank, height);
                if (found != NONE) {
                    exchange(rank, found);
                    scaleRow(rank, width, inverse(cell[rank][c], prime), prime);
                    clearColumn(rank, c, height, width, prime);
                    lead[rank] = c;
                    rank++;
                }
            }
            return rank;
        }

        /** Which of the columns behind the first n, one for each direction, are made of these n (in n rows). */
        long columnsMade(int n, Lattice lattice) {
            int rank = reduce(n, n + lattice.directions, n, lattice.prime);
            long bits = 0;
            for (int d = 0; d < lattice.directions; d++) {
                if (rowWith(n + d, rank, n) == NONE) {
                    bits |= 1L << d;
                }
            }
            return bits;
        }

        /** Numbers for the columns that make the one behind them, 0 for each column made of lesser ones. */
        boolean solve(int height, int unknowns, int prime, Told answer) {
            int rank = reduce(height, unknowns + 1, unknowns, prime);
            if (rowWith(unknowns, rank, height) != NONE) {
                return false;
            }
            answer.size = unknowns;
            for (int i = 0; i < unknowns; i++) {
                answer.item[i] = 0;
            }
            for (int r = 0; r < rank; r++) {
                answer.item[lead[r]] = cell[r][unknowns];
            }
            return true;
        }

        private int rowWith(int column, int from, int height) {
            for (int r = from; r < height; r++) {
                if (cell[r][column] != 0) {
                    return r;
                }
            }
            return NONE;
        }

        private void exchange(int a, int b) {
            int[] held = cell[a];
            cell[a] = cell[b];
            cell[b] = held;
        }

        private void scaleRow(int row, int width, int scale, int prime) {
            for (int c = 0; c < width; c++) {
                cell[row][c] = product(cell[row][c], scale, prime);
            }
        }

        /** The row's own number in the column is 1, and all ahead of it are 0. */
        private void clearColumn(int row, int column, int height, int width, int prime) {
            for (int r = 0; r < height; r++) {
                int times = cell[r][column];
                if (r != row && times != 0) {
                    for (int c = column; c < width; c++) {
                        cell[r][c] = difference(cell[r][c], product(times, cell[row][c], prime), prime);
                    }
                }
            }
        }
    }

    /** The shortest rule of a row, its roots and their strengths. */
    private static final class RuleFinder {
        final int[] row = new int[MOST_LAGS];
        final Told steps = new Told(MOST_LAGS);
        final Told strengths = new Told(MOST_LAGS);
        long rootBits;

        void find(int many, Lattice lattice, Rows rows) {
            for (int k = 0; k <= many; k++) {
                if (fits(k, many, lattice.prime, rows)) {
                    break;
                }
            }
            findRoots(lattice);
            findStrengths(lattice, rows);
        }

        private boolean fits(int k, int many, int prime, Rows rows) {
            for (int t = k; t < many; t++) {
                for (int j = 1; j <= k; j++) {
                    rows.cell[t - k][j - 1] = row[t - j];
                }
                rows.cell[t - k][k] = row[t];
            }
            return rows.solve(many - k, k, prime, steps);
        }

        private void findRoots(Lattice lattice) {
            rootBits = 0;
            for (int d = 0; d < lattice.directions; d++) {
                if (isRoot(lattice.waveAt(d, 1), lattice.prime)) {
                    rootBits |= 1L << d;
                }
            }
        }

        /** x^k less c1 x^(k-1) less .. less ck, by Horner. */
        private boolean isRoot(int x, int prime) {
            int value = 1;
            for (int j = 0; j < steps.size; j++) {
                value = difference(product(value, x, prime), steps.item[j], prime);
            }
            return value == 0;
        }

        private void findStrengths(Lattice lattice, Rows rows) {
            int k = steps.size;
            strengths.size = 0;
            if (k == 0 || Long.bitCount(rootBits) != k) {
                return;
            }
            int column = 0;
            for (int d = 0; d < lattice.directions; d++) {
                if ((rootBits >> d & 1) == 1) {
                    for (int t = 0; t < k; t++) {
                        rows.cell[t][column] = lattice.waveAt(d, t);
                    }
                    column++;
                }
            }
            for (int t = 0; t < k; t++) {
                rows.cell[t][k] = row[t];
            }
            rows.solve(k, k, lattice.prime, strengths);
        }
    }

    /** The fewest directions that make readings of some of the hearers. */
    private static final class Makers {
        int sets;
        final int[] found = new int[MOST_MADE];
        private int prime;
        private int directions;
        private int hearers;
        private final int[][] column = new int[MOST_DIRECTIONS][MOST_HEARERS];
        // The hearers that count; those that the base leads by come first.
        private int heard;
        private final int[] hearer = new int[MOST_HEARERS];
        // Columns chosen so far, each less what those ahead make of it; rest: the readings less what these make.
        private final int[][] base = new int[MOST_MADE][MOST_HEARERS];
        private final int[][] rest = new int[MOST_MADE][MOST_HEARERS];
        private final int[] times = new int[MOST_MADE];
        private final int[] chosen = new int[MOST_MADE];
        private boolean oneWillDo;

        void hear(Scene scene, int[] readings) {
            prime = scene.lattice.prime;
            directions = scene.lattice.directions;
            hearers = scene.hearers;
            for (int h = 0; h < hearers; h++) {
                rest[0][h] = readings[h];
                for (int d = 0; d < directions; d++) {
                    column[d][h] = scene.gainedWave(h, d);
                }
            }
        }

        void hearAllBut(int a, int b) {
            heard = 0;
            for (int h = 0; h < hearers; h++) {
                if (h != a && h != b) {
                    hearer[heard] = h;
                    heard++;
                }
            }
        }

        int fewestUpTo(int most, boolean anySet) {
            oneWillDo = anySet;
            sets = 0;
            if (bringForward(rest[0], 0) == 0) {
                sets = 1;
                return 0;
            }
            for (int k = 1; k <= most; k++) {
                choose(0, 0, k);
                if (sets > 0) {
                    return k;
                }
            }
            return NONE;
        }

        /** As fewer than k don't make the readings, no column of a set of k is made of the others. */
        private void choose(int level, int from, int k) {
            if (level + 1 >= k) {
                chooseLast(level, from);
                return;
            }
            for (int d = from; d < directions && !isDone(); d++) {
                if (takeIntoBase(level, d)) {
                    chosen[level] = d;
                    choose(level + 1, d + 1, k);
                }
            }
        }

        private boolean isDone() {
            return oneWillDo && sets > 0;
        }

        private void chooseLast(int level, int from) {
            if (bringForward(rest[level], level) == 0) {
                return;
            }
            for (int d = from; d < directions && !isDone(); d++) {
                if (makesRest(level, d)) {
                    chosen[level] = d;
                    if (sets == 0) {
                        System.arraycopy(chosen, 0, found, 0, level + 1);
                    }
                    sets++;
                }
            }
        }

        /** Puts the first hearer from that one on, of whom the row isn't 0, there: what the row is of it; 0 if none is. */
        private int bringForward(int[] row, int from) {
            for (int i = from; i < heard; i++) {
                int h = hearer[i];
                if (row[h] != 0) {
                    hearer[i] = hearer[from];
                    hearer[from] = h;
                    return row[h];
                }
            }
            return 0;
        }

        private boolean takeIntoBase(int level, int d) {
            findTimes(level, d);
            for (int i = level; i < heard; i++) {
                base[level][hearer[i]] = lessBase(level, d, hearer[i]);
            }
            int leading = bringForward(base[level], level);
            if (leading == 0) {
                return false;
            }
            int scale = inverse(leading, prime);
            int much = rest[level][hearer[level]];
            for (int i = level; i < heard; i++) {
                int h = hearer[i];
                base[level][h] = product(base[level][h], scale, prime);
                rest[level + 1][h] = difference(rest[level][h], product(much, base[level][h], prime), prime);
            }
            return true;
        }

        /** How many times each column of the base is in that of d. */
        private void findTimes(int level, int d) {
            for (int i = 0; i < level; i++) {
                times[i] = lessBase(i, d, hearer[i]);
            }
        }

        private int lessBase(int level, int d, int h) {
            int value = column[d][h];
            for (int i = 0; i < level; i++) {
                value += (prime - times[i]) * base[i][h];
            }
            return value % prime;
        }

        private boolean makesRest(int level, int d) {
            findTimes(level, d);
            int first = hearer[level];
            int own = lessBase(level, d, first);
            if (own == 0) {
                return false;
            }
            int wanted = rest[level][first];
            for (int i = level + 1; i < heard; i++) {
                int h = hearer[i];
                if (product(lessBase(level, d, h), wanted, prime) != product(own, rest[level][h], prime)) {
                    return false;
                }
            }
            return true;
        }
    }

    /** Reads a field from the tape, line by line, up to its first fault. */
    private static final class Reader {
        private static final int MOST_TEXT = 900;
        private static final int MOST_LETTERS = 7;
        private static final int MOST_DIGITS = 3;

        private static final int CANNOT_COME = 1;
        private static final int BAD_NUMBER = 2;
        private static final int BAD_NAME = 3;
        private static final int TOO_MANY = 4;

        private static final int END = 0;
        private static final int STRAY = 1;
        private static final int WORD = 2;
        private static final int NUMBER = 3;
        private static final int SEMICOLON = 4;
        private static final int MINUS = 5;

        // A word is one number, its letters' bytes, so that words are compared without texts.
        private static final long LATTICE = 0x6c617474696365L;
        private static final long HEARER = 0x686561726572L;
        private static final long GAIN = 0x6761696eL;
        private static final long SENDER = 0x73656e646572L;
        private static final long DRIFTS = 0x647269667473L;
        private static final long LIKE = 0x6c696b65L;
        private static final long STATION = 0x73746174696f6eL;
        private static final long BEARING = 0x62656172696e67L;

        int faultPlace;
        int faultKind;
        private int[] bytes = new int[0];
        private int length;
        private int next;
        private int kind;
        private int start;
        private long word;
        private int value;
        private int directions;
        private boolean latticeTold;
        private final long[] senderName = new long[MOST_SENDERS];
        private final long[] stationName = new long[MOST_STATIONS];

        /** How many lines; NONE with a fault. */
        int readInto(Scene draft, Tape tape) {
            bytes = tape.bytes;
            length = tape.length;
            draft.clear();
            faultKind = 0;
            directions = USUAL_DIRECTIONS;
            latticeTold = false;
            next = 0;
            advance();
            for (int lines = 0; lines <= MOST_TEXT; lines++) {
                if (kind == END) {
                    return readToEnd(draft) ? lines : NONE;
                }
                if (!readLine(draft) || !closeLine()) {
                    return NONE;
                }
            }
            return NONE;
        }

        private boolean readToEnd(Scene draft) {
            if (length > MOST_TEXT) {
                return blame(CANNOT_COME);
            }
            draft.lattice.spread(directions);
            return true;
        }

        /** Reads up to where the line's semicolon is due. */
        private boolean readLine(Scene draft) {
            if (kind != WORD) {
                return blame(CANNOT_COME);
            }
            if (word == LATTICE) {
                return readLattice(draft);
            }
            if (word == HEARER) {
                return readHearer(draft);
            }
            if (word == SENDER) {
                return readSender(draft);
            }
            if (word == STATION) {
                return readStation(draft.compass, draft.senders);
            }
            if (word == BEARING) {
                return readBearing(draft.compass);
            }
            return blame(CANNOT_COME);
        }

        private boolean readLattice(Scene draft) {
            if (latticeTold || draft.senders > 0) {
                return blame(BAD_NAME);
            }
            advance();
            if (!isNumber(2, MOST_DIRECTIONS)) {
                return false;
            }
            directions = value;
            latticeTold = true;
            advance();
            return true;
        }

        private boolean readHearer(Scene draft) {
            if (draft.hearers >= MOST_HEARERS) {
                return blame(TOO_MANY);
            }
            advance();
            if (!isNumber(0, MOST_PLACE)) {
                return false;
            }
            if (draft.hasPlace(value)) {
                return blame(BAD_NAME);
            }
            int place = value;
            int gain = 1;
            advance();
            if (isWord(GAIN)) {
                advance();
                if (!isNumber(1, MOST_GAIN)) {
                    return false;
                }
                gain = value;
                advance();
            }
            draft.addHearer(place, gain);
            return true;
        }

        private boolean readSender(Scene draft) {
            if (draft.senders >= MOST_SENDERS) {
                return blame(TOO_MANY);
            }
            advance();
            if (!isNewName(draft.senders, draft.compass.stations)) {
                return false;
            }
            senderName[draft.senders] = word;
            advance();
            if (!isNumber(0, directions - 1)) {
                return false;
            }
            int from = value;
            advance();
            if (!isNumber(1, MOST_GAIN)) {
                return false;
            }
            int amount = value;
            advance();
            return readSenderTail(draft, from, amount);
        }

        private boolean readSenderTail(Scene draft, int from, int amount) {
            int drift = 0;
            int like = NONE;
            if (isWord(DRIFTS)) {
                advance();
                if (!isNumber(0, directions - 1)) {
                    return false;
                }
                drift = value;
                advance();
            }
            if (isWord(LIKE)) {
                advance();
                like = namedOne(senderName, draft.senders);
                if (like == NONE) {
                    return false;
                }
                advance();
            }
            draft.addSender(from, amount, drift, like);
            return true;
        }

        private boolean readStation(Compass compass, int senders) {
            if (compass.stations >= MOST_STATIONS) {
                return blame(TOO_MANY);
            }
            advance();
            if (!isNewName(senders, compass.stations)) {
                return false;
            }
            stationName[compass.stations] = word;
            advance();
            if (!isSigned()) {
                return false;
            }
            int x = value;
            advance();
            if (!isSigned()) {
                return false;
            }
            compass.addStation(x, value);
            advance();
            return true;
        }

        private boolean readBearing(Compass compass) {
            if (compass.bearings >= MOST_BEARINGS) {
                return blame(TOO_MANY);
            }
            advance();
            int station = namedOne(stationName, compass.stations);
            if (station == NONE) {
                return false;
            }
            advance();
            if (!isSigned()) {
                return false;
            }
            int dx = value;
            advance();
            if (!isSigned()) {
                return false;
            }
            if (dx == 0 && value == 0) {
                return blame(BAD_NUMBER);
            }
            compass.addBearing(station, dx, value);
            advance();
            return true;
        }

        private boolean closeLine() {
            if (kind != SEMICOLON) {
                return blame(CANNOT_COME);
            }
            advance();
            return true;
        }

        private boolean blame(int fault) {
            faultKind = fault;
            faultPlace = start;
            return false;
        }

        private boolean isWord(long which) {
            return kind == WORD && word == which;
        }

        private boolean isNumber(int least, int most) {
            if (kind != NUMBER) {
                return blame(CANNOT_COME);
            }
            return value >= least && value <= most || blame(BAD_NUMBER);
        }

        /** Steps over a minus, and then makes the number's value the one below 0. */
        private boolean isSigned() {
            boolean minus = kind == MINUS;
            if (minus) {
                advance();
            }
            if (!isNumber(0, MOST_PLACE)) {
                return false;
            }
            value = minus ? -value : value;
            return true;
        }

        private boolean isName() {
            if (kind != WORD) {
                return false;
            }
            return word != LATTICE && word != HEARER && word != GAIN && word != SENDER
                && word != DRIFTS && word != LIKE && word != STATION && word != BEARING;
        }

        private boolean isNewName(int senders, int stations) {
            if (!isName()) {
                return blame(CANNOT_COME);
            }
            boolean told = placeOf(senderName, senders) != NONE || placeOf(stationName, stations) != NONE;
            return !told || blame(BAD_NAME);
        }

        private int namedOne(long[] names, int many) {
            if (!isName()) {
                blame(CANNOT_COME);
                return NONE;
            }
            int which = placeOf(names, many);
            if (which == NONE) {
                blame(BAD_NAME);
            }
            return which;
        }

        private int placeOf(long[] names, int many) {
            for (int i = 0; i < many && i < names.length; i++) {
                if (names[i] == word) {
                    return i;
                }
            }
            return NONE;
        }

        /** Goes on to the next token; none begins at the text's greatest length or behind it. */
        private void advance() {
            int limit = Math.min(length, MOST_TEXT);
            while (next < limit && (bytes[next] == ' ' || bytes[next] == '\n')) {
                next++;
            }
            start = Math.min(next, limit);
            if (next >= limit) {
                kind = END;
                return;
            }
            if (readRun()) {
                return;
            }
            int sign = bytes[next];
            kind = sign == ';' ? SEMICOLON : sign == '-' ? MINUS : STRAY;
            next++;
        }

        /** Reads small letters and digits as far as they go; false if there are none. */
        private boolean readRun() {
            int letters = 0;
            int digits = 0;
            word = 0;
            value = 0;
            for (; next < length; next++) {
                int sign = bytes[next];
                if (sign >= 'a' && sign <= 'z') {
                    letters++;
                    word = word << 8 | sign;
                } else if (sign >= '0' && sign <= '9') {
                    digits++;
                    value = digits <= MOST_DIGITS ? value * 10 + sign - '0' : value;
                } else {
                    break;
                }
            }
            boolean isWord = digits == 0 && letters <= MOST_LETTERS;
            boolean isNumber = letters == 0 && digits <= MOST_DIGITS;
            kind = isWord ? WORD : isNumber ? NUMBER : STRAY;
            return letters + digits > 0;
        }
    }
}

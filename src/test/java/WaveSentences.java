/** The sentences of hearers, senders, the moment, waves, readings and covers: promises 6 to 11, and their terms. */
final class WaveSentences {
    private static final int P = 1009;
    // W for 4 directions, and its powers.
    private static final int[] W = {1, 469, 1008, 540};
    private static final int[] FAR = {Integer.MIN_VALUE, -2, -1, 60, 1000, Integer.MAX_VALUE};

    private WaveSentences() {
    }

    static void all(Sentences s) {
        primes(s);
        moments(s);
        flocks(s);
        waves(s);
        readings(s);
        covers(s);
        throwing(s);
        hearer(s);
        sender(s);
        moment(s);
    }

    private static void primes(Sentences s) {
        s.terms("Promise 43: count", "P: the least prime above 1000 of which N divides P less 1.", t -> {
            int[][] told = {{2, 1009}, {3, 1009}, {5, 1021}, {10, 1021}, {11, 1013}, {12, 1009}, {13, 1093}, {59, 1063}};
            for (int[] one : told) {
                t.is("P of " + one[0], Due.of("lattice " + one[0] + ";").count(1), one[1]);
            }
            for (int n = 2; n <= 60; n++) {
                t.is("P of " + n, Due.of("lattice " + n + ";").count(1), ByHand.prime(n));
            }
        });
        s.terms("Promise 43: count", "W: the least number above 0 of which the N-th power is 1 by P,"
            + " and no lower power is (from the first on).", t -> {
            t.is("W of 2", Due.of("lattice 2;").count(2), 1008);
            t.is("W of 4", Due.of("lattice 4;").count(2), 469);
            for (int n = 2; n <= 60; n++) {
                t.is("W of " + n, Due.of("lattice " + n + ";").count(2), ByHand.root(n));
            }
        });
        s.terms("Promise 10: reading", "All numbers (but those of 4) are 0 to P less 1, by P;", t -> {
            t.is("999 and 9", Due.of("hearer 0;sender a 0 999;sender b 0 9;").reading(0), 1008);
            t.is("999 and 10", Due.of("hearer 0;sender a 0 999;sender b 0 10;").reading(0), 0);
            t.is("999 and 11", Due.of("hearer 0;sender a 0 999;sender b 0 11;").reading(0), 1);
            t.is("1 the other way", Due.of("lattice 2;hearer 1;sender a 1 1;").reading(0), 1008);
            WaveRows x = Due.of("hearer 0 gain 999;sender a 0 999;");
            t.is("999 times 999", x.reading(0), 100);
            t.is("and once more: cover(0, 0)", x.cover(0, 0), 919);
            t.is("through both gains: lag(0)", x.lag(0), 100);
            WaveRows y = Due.of("lattice 2;hearer 0;hearer 1;hearer 2;sender a 1 1;");
            t.is("the other way on: rule(0)", y.rule(0), 1);
            t.is("the other way on: ruleAt(1)", y.ruleAt(1), 1008);
            t.is("the other way: cover(0, 1)", y.cover(0, 1), 1008);
            Due.readings(y, 1, 1009, 1010);
            t.is("gains of 1, 1009, 1010", y.mend(0), true);
            t.is("1009 is 0", y.hearer(1, 1), 0);
            t.is("1010 is 1", y.hearer(2, 1), 1);
        });
        s.terms("Promise 11: cover", "W to the power -k is W to the power N less k's rest.", t -> {
            for (int n : new int[] {2, 5, 12, 60}) {
                for (int d : new int[] {0, 1, n - 1}) {
                    WaveRows x = Due.of("lattice " + n + ";hearer 0;hearer 1;hearer " + n + ";hearer 99;sender a " + d + " 1;");
                    for (int h = 0; h < 4; h++) {
                        int there = x.wave(d, x.hearer(h, 0));
                        t.is("lattice " + n + ", " + d + ": cover(" + h + ", 0)", x.cover(h, 0), there);
                        t.is("lattice " + n + ", " + d + ": cover(0, " + h + ") by wave",
                            x.cover(0, h) * there % x.count(1), 1);
                    }
                }
            }
        });
    }

    private static void moments(Sentences s) {
        s.terms("Promise 7: sender", "At a moment T (0 to 999; 0 in a new FIELD) a SENDER's direction is D and V times T, its rest by N.", t -> {
            WaveRows x = Due.of("lattice 5;hearer 1;sender a 4 17 drifts 3;sender b 2 1;");
            t.is("in a new FIELD", x.count(7), 0);
            int[][] due = {{0, 4}, {1, 2}, {2, 0}, {3, 3}, {999, 1}};
            for (int[] at : due) {
                t.is("moment(" + at[0] + ")", x.moment(at[0]), true);
                t.is("at " + at[0] + ": sender(0, 0)", x.sender(0, 0), at[1]);
                t.is("at " + at[0] + ": sender(1, 0)", x.sender(1, 0), 2);
                t.is("at " + at[0] + ": reading(0)", x.reading(0), (17 * x.wave(at[1], 1) + x.wave(2, 1)) % x.count(1));
            }
            WaveRows y = Due.of("lattice 60;sender a 59 1 drifts 59;sender b 0 1 drifts 1;");
            y.moment(1);
            t.is("59 and 59", y.sender(0, 0), 58);
            y.moment(59);
            t.is("59 and 59 times 59", y.sender(0, 0), 0);
            t.is("0 and 59", y.sender(1, 0), 59);
            y.moment(60);
            t.is("0 and 60", y.sender(1, 0), 0);
            y.moment(999);
            t.is("59 and 999 times 59", y.sender(0, 0), 20);
            t.is("another FIELD", Due.told(y, "lattice 60;sender a 59 1 drifts 59;"), 2);
            t.is("another FIELD: count(7)", y.count(7), 0);
            t.is("another FIELD: sender(0, 0)", y.sender(0, 0), 59);
        });
        s.terms("Promise 8: moment", "(0 to 999; 0 in a new FIELD)", t -> {
            WaveRows x = new WaveRows();
            t.is("of a new object", x.count(7), 0);
            t.is("moment(999)", x.moment(999), true);
            t.is("moment(1000)", x.moment(1000), false);
            t.is("moment(-1)", x.moment(-1), false);
            Due.told(x, "");
            t.is("in a new FIELD", x.count(7), 0);
        });
    }

    private static void flocks(Sentences s) {
        s.terms("Promise 7: sender", "SENDERS are ALIKE: one and that which it is 'like', and so on: a FLOCK.", t -> {
            WaveRows x = Due.of("sender a 1 1;sender b 1 1;sender c 1 1 like b;sender d 1 1 like a;sender e 1 1 like c;"
                + "sender f 1 1 like d;");
            int[] due = {0, 1, 1, 0, 1, 0};
            for (int i = 0; i < due.length; i++) {
                t.is("sender(" + i + ", 3)", x.sender(i, 3), due[i]);
            }
            WaveRows row = Due.of("hearer 0;sender a 0 1;sender b 0 1 like a;sender c 0 1 like b;sender d 0 1 like c;"
                + "sender e 0 1 like d;sender f 0 1 like e;");
            t.is("six in a row: the last", row.sender(5, 3), 0);
            t.is("six in a row: cover(0, 0)", row.cover(0, 0), 36);
            WaveRows none = Due.of("hearer 0;sender a 0 1;sender b 0 1;sender c 0 1;sender d 0 1;sender e 0 1;sender f 0 1;");
            t.is("six alone: the last", none.sender(5, 3), 5);
            t.is("six alone: cover(0, 0)", none.cover(0, 0), 6);
        });
    }

    private static void waves(Sentences s) {
        s.terms("Promise 9: wave", "WAVE of a direction d at a PLACE p: W to the power d times p.", t -> {
            for (int n : new int[] {2, 7, 60}) {
                WaveRows x = Due.of("lattice " + n + ";");
                for (int d : new int[] {0, 1, n / 2, n - 1}) {
                    for (int p : new int[] {0, 1, n - 1, n, n + 1, 99}) {
                        t.is("lattice " + n + ": wave(" + d + ", " + p + ")", x.wave(d, p), ByHand.wave(n, d, p));
                    }
                }
            }
        });
        s.says("Promise 9: wave", "WAVE of direction d at PLACE p (0 to 99); NONE: no such ones.", t -> {
            WaveRows x = Due.of("lattice 4;");
            for (int d = 0; d < 4; d++) {
                for (int p : new int[] {0, 1, 2, 3, 4, 5, 98, 99}) {
                    t.is("wave(" + d + ", " + p + ")", x.wave(d, p), W[d * p % 4]);
                }
                t.is("wave(" + d + ", 100)", x.wave(d, 100), -1);
                t.is("wave(" + d + ", -1)", x.wave(d, -1), -1);
                t.is("wave(" + d + ", MIN)", x.wave(d, Integer.MIN_VALUE), -1);
                t.is("wave(" + d + ", MAX)", x.wave(d, Integer.MAX_VALUE), -1);
            }
            for (int d : new int[] {4, 5, 12, 60, -1, Integer.MIN_VALUE, Integer.MAX_VALUE}) {
                t.is("wave(" + d + ", 0)", x.wave(d, 0), -1);
            }
            WaveRows y = Due.of("lattice 60;");
            t.is("of 60: wave(59, 99)", y.wave(59, 99), ByHand.wave(60, 59, 99));
            t.is("of 60: wave(60, 99)", y.wave(60, 99), -1);
            t.is("without lattice: wave(11, 1)", new WaveRows().wave(11, 1), ByHand.wave(12, 11, 1));
            t.is("without lattice: wave(12, 1)", new WaveRows().wave(12, 1), -1);
        });
    }

    private static void readings(Sentences s) {
        s.terms("Promise 10: reading", "READING of a HEARER: its GAIN times the sum, over all SENDERS, of A times WAVE of its direction"
            + " at its PLACE.", t -> {
            WaveRows x = Due.of("lattice 4;hearer 1 gain 3;hearer 4;sender a 1 7 drifts 1;sender b 3 2;");
            t.is("reading(0)", x.reading(0), 3 * (7 * W[1] + 2 * W[3]) % P);
            t.is("reading(1)", x.reading(1), 9);
            x.moment(2);
            t.is("at moment 2: reading(0)", x.reading(0), 3 * 9 * W[3] % P);
            t.is("no SENDERS", Due.of("hearer 1;").reading(0), 0);
            t.is("two alike, that cancel out", Due.of("lattice 2;hearer 1;sender a 0 5;sender b 1 5 like a;").reading(0), 0);
            WaveRows six = Due.of("lattice 60;hearer 99 gain 999;sender a 0 999;sender b 59 999;sender c 30 999;"
                + "sender d 1 999;sender e 1 999;sender f 17 999 drifts 59;");
            six.moment(999);
            long sum = 0;
            for (int d : new int[] {0, 59, 30, 1, 1, (17 + 59 * 999) % 60}) {
                sum += 999L * ByHand.wave(60, d, 99);
            }
            t.is("six of the greatest", six.reading(0), 999 * (sum % 1021) % 1021);
            Due.readings(x, 1, 0);
            x.mend(0);
            t.is("without a gain", x.reading(1), 0);
        });
        s.says("Promise 10: reading", "READING of HEARER h; NONE: no such one.", t -> {
            WaveRows x = Due.of("lattice 4;hearer 1 gain 3;hearer 4;sender a 1 7;");
            t.is("reading(0)", x.reading(0), 21 * W[1] % P);
            t.is("reading(1)", x.reading(1), 7);
            t.is("reading(2)", x.reading(2), -1);
            t.is("reading(10)", x.reading(10), -1);
            for (int h : FAR) {
                t.is("reading(" + h + ")", x.reading(h), -1);
            }
            x.lose(0);
            t.is("with one lost: reading(0)", x.reading(0), 7);
            t.is("with one lost: reading(1)", x.reading(1), -1);
            t.is("no HEARERS: reading(0)", new WaveRows().reading(0), -1);
            WaveRows ten = tenHearers();
            t.is("ten: reading(9)", ten.reading(9), 3);
            t.is("ten: reading(10)", ten.reading(10), -1);
        });
    }

    private static WaveRows tenHearers() {
        StringBuilder text = new StringBuilder();
        for (int h = 0; h < 10; h++) {
            text.append("hearer 9").append(h).append(";");
        }
        return Due.of(text + "sender a 0 3;");
    }

    private static void covers(Sentences s) {
        s.terms("Promise 11: cover", "COVER of HEARERS i, j: both GAINS times the sum, over all FLOCKS, of (the sum over its SENDERS of"
            + " A times WAVE at i's PLACE) times (the sum of A times WAVE, at j's PLACE, of what N less the direction is).", t -> {
            WaveRows x = Due.of("lattice 4;hearer 1 gain 3;hearer 4;sender a 1 7 drifts 1;sender b 3 2;");
            t.is("cover(0, 0)", x.cover(0, 0), 9 * 53);
            t.is("cover(0, 1)", x.cover(0, 1), 3 * (49 * W[1] + 4 * W[3]) % P);
            t.is("cover(1, 0)", x.cover(1, 0), 3 * (49 * W[3] + 4 * W[1]) % P);
            t.is("cover(1, 1)", x.cover(1, 1), 53);
            x.moment(1);
            t.is("at moment 1: cover(0, 1)", x.cover(0, 1), 3 * (49 * W[2] + 4 * W[3]) % P);
            WaveRows y = Due.of("lattice 4;hearer 1 gain 3;hearer 4;sender a 1 7;sender c 0 1;sender b 3 2 like a;");
            int there = 7 * W[1] + 2 * W[3];
            int back = 7 * W[3] + 2 * W[1];
            t.is("flocks: cover(0, 0)", y.cover(0, 0), 9L * ((long) there * back % P + 1) % P);
            t.is("flocks: cover(0, 1)", y.cover(0, 1), 3L * (there % P * 9 + 1) % P);
            t.is("flocks: cover(1, 0)", y.cover(1, 0), 3L * (back % P * 9 + 1) % P);
            t.is("flocks: cover(1, 1)", y.cover(1, 1), 82);
            t.is("no SENDERS", Due.of("hearer 1 gain 3;").cover(0, 0), 0);
            // Direction 0, for which N less it is N: the wave is 1 anywhere.
            WaveRows zero = Due.of("lattice 7;hearer 3;hearer 99;sender a 0 2;");
            t.is("direction 0: cover(0, 1)", zero.cover(0, 1), 4);
        });
        s.says("Promise 11: cover", "COVER of HEARERS i, j; NONE: no such ones.", t -> {
            WaveRows x = Due.of("lattice 4;hearer 0;hearer 1;sender a 1 2;");
            t.is("cover(1, 0)", x.cover(1, 0), 4 * W[1] % P);
            t.is("cover(0, 1)", x.cover(0, 1), 4 * W[3] % P);
            t.is("cover(0, 2)", x.cover(0, 2), -1);
            t.is("cover(2, 0)", x.cover(2, 0), -1);
            t.is("cover(2, 2)", x.cover(2, 2), -1);
            for (int h : FAR) {
                t.is("cover(0, " + h + ")", x.cover(0, h), -1);
                t.is("cover(" + h + ", 1)", x.cover(h, 1), -1);
                t.is("cover(" + h + ", " + h + ")", x.cover(h, h), -1);
            }
            t.is("no HEARERS: cover(0, 0)", new WaveRows().cover(0, 0), -1);
            t.is("ten: cover(9, 0)", tenHearers().cover(9, 0), 9);
            t.is("ten: cover(0, 9)", tenHearers().cover(0, 9), 9);
            t.is("ten: cover(0, 10)", tenHearers().cover(0, 10), -1);
            t.is("ten: cover(10, 0)", tenHearers().cover(10, 0), -1);
        });
    }

    private static void throwing(Sentences s) {
        s.terms("Promise 6: hearer", "A call that throws changes nothing.", t -> {
            WaveRows x = Due.of("lattice 4;hearer 0 gain 2;hearer 1;sender a 1 7 drifts 1;station b 0 0;station c 4 0;"
                + "bearing b 1 1;bearing c -1 1;bearing c 1 0;");
            x.moment(3);
            Due.told(x, "hearer .");
            x.rule(0);
            Due.readings(x, 1, 1);
            x.fewest();
            Due.tape(x, 1);
            x.nulled();
            x.feed(0, 0, 0, 0, 0);
            String ahead = State.of(x);
            t.noSuch("hearer(2, 0)", () -> x.hearer(2, 0));
            t.noSuch("hearer(0, 2)", () -> x.hearer(0, 2));
            t.noSuch("sender(1, 0)", () -> x.sender(1, 0));
            t.noSuch("sender(0, 4)", () -> x.sender(0, 4));
            t.noSuch("cross(0, 2, 0)", () -> x.cross(0, 2, 0));
            t.noSuch("cross(0, 1, 4)", () -> x.cross(0, 1, 4));
            t.noSuch("cross(0, 3, 0)", () -> x.cross(0, 3, 0));
            t.same("all that it tells", State.of(x), ahead);
        });
    }

    private static void hearer(Sentences s) {
        String hearer = "Promise 6: hearer";
        s.says(hearer, "Of HEARER h: 0 PLACE, 1 GAIN.", t -> {
            WaveRows x = Due.of("hearer 99 gain 999;hearer 0;");
            int[] due = {99, 999, 0, 1};
            for (int i = 0; i < due.length; i++) {
                t.is("hearer(" + i / 2 + ", " + i % 2 + ")", x.hearer(i / 2, i % 2), due[i]);
            }
            t.is("the tenth", tenHearers().hearer(9, 0), 99);
        });
        s.says(hearer, "NoSuchElementException: no such ones.", t -> {
            WaveRows x = Due.of("hearer 7 gain 20;hearer 3;");
            for (int far : FAR) {
                t.noSuch("hearer(" + far + ", 0)", () -> x.hearer(far, 0));
                t.noSuch("hearer(" + far + ", 1)", () -> x.hearer(far, 1));
                t.noSuch("hearer(0, " + far + ")", () -> x.hearer(0, far));
                t.noSuch("hearer(" + far + ", " + far + ")", () -> x.hearer(far, far));
            }
            t.noSuch("hearer(2, 0)", () -> x.hearer(2, 0));
            t.noSuch("hearer(2, 1)", () -> x.hearer(2, 1));
            t.noSuch("hearer(1, 2)", () -> x.hearer(1, 2));
            x.lose(0);
            t.noSuch("with one lost: hearer(1, 0)", () -> x.hearer(1, 0));
            t.noSuch("no HEARERS: hearer(0, 0)", () -> new WaveRows().hearer(0, 0));
            t.noSuch("ten: hearer(10, 0)", () -> tenHearers().hearer(10, 0));
        });
    }

    private static void sender(Sentences s) {
        String sender = "Promise 7: sender";
        s.says(sender, "Of SENDER s: 0 its direction now, 1 A, 2 V, 3 the least SENDER of its FLOCK.", t -> {
            WaveRows x = Due.of("lattice 5;sender a 4 17 drifts 3;sender b 2 999;sender c 0 1 drifts 4 like b;"
                + "sender d 1 1 like c;sender e 1 1;sender f 3 2 drifts 1 like e;");
            int[] due = {4, 17, 3, 0, 2, 999, 0, 1, 0, 1, 4, 1, 1, 1, 0, 1, 1, 1, 0, 4, 3, 2, 1, 4};
            for (int i = 0; i < due.length; i++) {
                t.is("sender(" + i / 4 + ", " + i % 4 + ")", x.sender(i / 4, i % 4), due[i]);
            }
            x.moment(2);
            t.is("at moment 2: sender(0, 0)", x.sender(0, 0), 0);
            t.is("at moment 2: sender(0, 2)", x.sender(0, 2), 3);
            t.is("at moment 2: sender(5, 0)", x.sender(5, 0), 0);
        });
        s.says(sender, "NoSuchElementException: no such ones.", t -> {
            WaveRows x = Due.of("sender a 1 1;sender b 1 1;");
            for (int far : FAR) {
                for (int what = 0; what < 4; what++) {
                    int it = what;
                    t.noSuch("sender(" + far + ", " + it + ")", () -> x.sender(far, it));
                }
                t.noSuch("sender(0, " + far + ")", () -> x.sender(0, far));
            }
            t.noSuch("sender(2, 0)", () -> x.sender(2, 0));
            t.noSuch("sender(2, 3)", () -> x.sender(2, 3));
            t.noSuch("sender(1, 4)", () -> x.sender(1, 4));
            t.noSuch("no SENDERS: sender(0, 0)", () -> new WaveRows().sender(0, 0));
            WaveRows six = Due.of("sender a 1 1;sender b 1 1;sender c 1 1;sender d 1 1;sender e 1 1;sender f 1 1;");
            t.is("six: sender(5, 1)", six.sender(5, 1), 1);
            t.noSuch("six: sender(6, 0)", () -> six.sender(6, 0));
        });
    }

    private static void moment(Sentences s) {
        s.says("Promise 8: moment", "Moment T is now: true; false: no such one.", t -> {
            WaveRows x = Due.of("lattice 7;sender a 0 1 drifts 1;");
            for (int now : new int[] {1, 0, 998, 999}) {
                t.is("moment(" + now + ")", x.moment(now), true);
                t.is("at " + now + ": count(7)", x.count(7), now);
                t.is("at " + now + ": sender(0, 0)", x.sender(0, 0), now % 7);
            }
            for (int never : new int[] {-1, 1000, 1001, Integer.MIN_VALUE, Integer.MAX_VALUE}) {
                t.is("moment(" + never + ")", x.moment(never), false);
                t.is("after moment(" + never + "): count(7)", x.count(7), 999);
            }
        });
    }
}

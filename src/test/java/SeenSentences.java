/** The sentences of ORDER, SEEN, TWINS, rows SMOOTHED, and places between places: promises 12 to 19, and their terms. */
final class SeenSentences {
    private static final int P = 1009;
    private static final int[] W = {1, 469, 1008, 540};
    private static final int[] FAR = {Integer.MIN_VALUE, -2, -1, 100, 1000, Integer.MAX_VALUE};

    private SeenSentences() {
    }

    static void all(Sentences s) {
        order(s);
        seen(s);
        twins(s);
        even(s);
        smoothed(s);
        smoothSeen(s);
        apart(s);
        run(s);
        lag(s);
    }

    private static String hearers(int many, int from) {
        StringBuilder text = new StringBuilder();
        for (int i = 0; i < many; i++) {
            text.append("hearer ").append(from + i).append(";");
        }
        return text.toString();
    }

    private static long bits(int... directions) {
        long bits = 0;
        for (int d : directions) {
            bits |= 1L << d;
        }
        return bits;
    }

    /** One hearer alone, and it has no gain. */
    private static WaveRows deaf() {
        WaveRows x = Due.of("hearer 4;hearer 5;sender a 1 1;");
        Due.readings(x, 1, 0);
        x.mend(0);
        x.lose(0);
        return x;
    }

    private static void order(Sentences s) {
        s.terms("Promise 12: order", "ORDER of a row of rows of numbers: how many of its rows none of which is made of the others"
            + " (its rank by P).", t -> {
            // 999 and 10 come to P, so that nothing is left by it.
            t.is("a flock of P", Due.of("hearer 0;sender a 0 999;sender b 0 10 like a;").order(), 0);
            t.is("a flock of P and 1", Due.of("hearer 0;sender a 0 999;sender b 0 11 like a;").order(), 1);
            t.is("two in one direction", Due.of(hearers(3, 0) + "sender a 3 5;sender b 3 7;").order(), 1);
            t.is("two that are twins", Due.of("lattice 4;hearer 0;hearer 2;sender a 0 5;sender b 2 7;").order(), 1);
            t.is("the first row is 0", Due.of("lattice 2;hearer 0;hearer 1;sender a 0 1;sender b 1 999 like a;"
                + "sender c 1 9 like a;").order(), 1);
        });
        s.says("Promise 12: order", "ORDER of COVER.", t -> {
            t.is("no HEARERS", new WaveRows().order(), 0);
            t.is("no HEARERS, a SENDER", Due.of("sender a 1 1;").order(), 0);
            t.is("no SENDERS", Due.of(hearers(10, 0)).order(), 0);
            t.is("one of each", Due.of("hearer 99;sender a 1 1;").order(), 1);
            t.is("more SENDERS than HEARERS", Due.of(hearers(2, 0) + "sender a 3 10;sender b 11 1;sender c 0 5;").order(), 2);
            String six = "lattice 60;" + hearers(10, 90)
                + "sender a 59 1;sender b 1 1;sender c 2 1;sender d 3 1;sender e 4 1;sender f 0 1 drifts 59;";
            WaveRows x = Due.of(six);
            t.is("six by ten", x.order(), 6);
            x.moment(1);
            t.is("two of them in one direction", x.order(), 5);
            t.is("two alike", Due.of(six.replace("b 1 1;", "b 1 1 like a;")).order(), 5);
            t.is("without a gain", deaf().order(), 0);
        });
    }

    private static void seen(Sentences s) {
        s.terms("Promise 13: seen", "SEEN: directions d for which the column of GAINS times WAVES of d at all HEARERS is made of columns"
            + " of COVER.", t -> {
            WaveRows x = Due.of("hearer 0 gain 7;hearer 1 gain 300;hearer 2;hearer 5 gain 999;sender a 3 10;sender b 10 1;");
            t.is("two", x.seen(), bits(3, 10));
            t.is("two alike", Due.of(hearers(4, 0) + "sender a 3 10;sender b 11 1 like a;").seen(), 0);
            t.is("as many as HEARERS", Due.of(hearers(2, 0) + "sender a 3 10;sender b 11 1;").seen(), 4095);
            t.is("a twin of one", Due.of("hearer 0;hearer 4;hearer 8;sender a 3 10;").seen(), bits(0, 3, 6, 9));
        });
        s.says("Promise 13: seen", "Directions SEEN, as bits.", t -> {
            t.is("no HEARERS: all", new WaveRows().seen(), 4095);
            t.is("no HEARERS, of 60: all", Due.of("lattice 60;").seen(), (1L << 60) - 1);
            t.is("no HEARERS, of 2: all", Due.of("lattice 2;").seen(), 3);
            t.is("no SENDERS: none", Due.of("hearer 0;").seen(), 0);
            t.is("one HEARER, a SENDER: all", Due.of("hearer 9;sender a 1 1;").seen(), 4095);
            t.is("nothing hears: all", deaf().seen(), 4095);
            WaveRows x = Due.of("lattice 60;" + hearers(10, 0) + "sender a 59 1;sender b 0 2;sender c 31 3 drifts 1;");
            t.is("of 60", x.seen(), bits(59, 0, 31));
            x.moment(28);
            t.is("two in one direction", x.seen(), bits(59, 0));
            x.moment(29);
            t.is("round", x.seen(), bits(59, 0));
            x.moment(30);
            t.is("round and on", x.seen(), bits(59, 0, 1));
        });
    }

    private static void twins(Sentences s) {
        s.terms("Promise 14: twins", "TWINS of d: other directions e for which WAVES of e are those of d times one number at all HEARERS.", t -> {
            t.is("no HEARERS", Due.of("lattice 2;").twins(1), 1);
            t.is("one HEARER", Due.of("lattice 2;hearer 7;").twins(1), 1);
            t.is("1 apart", Due.of("hearer 0;hearer 1;").twins(1), 0);
            t.is("1 apart, further on", Due.of("hearer 98;hearer 99;").twins(1), 0);
            t.is("12 apart, of 12", Due.of("hearer 3;hearer 15;").twins(11), 4095 - bits(11));
            t.is("11 apart, of 12", Due.of("hearer 3;hearer 14;").twins(11), 0);
            t.is("6 apart", Due.of("hearer 6;hearer 0;").twins(1), bits(3, 5, 7, 9, 11));
            t.is("4 and 10 apart", Due.of("hearer 1;hearer 5;hearer 11;").twins(0), bits(6));
            t.is("the last one parts them", Due.of("hearer 0;hearer 12;hearer 24;hearer 36;hearer 37;").twins(0), 0);
            t.is("without a gain", deaf().twins(0), 4094);
        });
        s.says("Promise 14: twins", "TWINS of direction d, as bits; NONE: no such one.", t -> {
            WaveRows x = Due.of("lattice 60;hearer 0;hearer 30;hearer 60;");
            t.is("twins(0)", x.twins(0), 0x555555555555555L - 1);
            t.is("twins(59)", x.twins(59), 0xaaaaaaaaaaaaaaaL - bits(59));
            t.is("twins(60)", x.twins(60), -1);
            for (int d : FAR) {
                t.is("twins(" + d + ")", x.twins(d), -1);
            }
            WaveRows y = Due.of("lattice 4;hearer 1;");
            t.is("of 4: twins(3)", y.twins(3), 7);
            t.is("of 4: twins(4)", y.twins(4), -1);
            t.is("no HEARERS: twins(11)", new WaveRows().twins(11), 2047);
            t.is("no HEARERS: twins(12)", new WaveRows().twins(12), -1);
        });
    }

    private static void even(Sentences s) {
        s.terms("Promise 15: smoothed", "EVEN: HEARERS stand, in the order told, each one PLACE behind the one ahead.", t -> {
            evenOrNot(t, "hearer 0;", true);
            evenOrNot(t, "hearer 99;", true);
            evenOrNot(t, "hearer 98;hearer 99;", true);
            evenOrNot(t, hearers(10, 0), true);
            evenOrNot(t, "hearer 1;hearer 0;", false);
            evenOrNot(t, "hearer 0;hearer 2;", false);
            evenOrNot(t, "hearer 0;hearer 1;hearer 3;", false);
            evenOrNot(t, "hearer 0;hearer 2;hearer 1;", false);
            evenOrNot(t, "hearer 1;hearer 2;hearer 0;", false);
            evenOrNot(t, hearers(9, 0) + "hearer 10;", false);
            WaveRows x = Due.of(hearers(4, 5));
            x.lose(0);
            t.is("without the first", x.smoothed(1), 0);
            x.lose(2);
            t.is("without the last", x.smoothed(1), 0);
            WaveRows y = Due.of(hearers(3, 5));
            y.lose(1);
            t.is("without the middle one", y.smoothed(1), -1);
            WaveRows z = Due.of("hearer 5;hearer 9;hearer 6;");
            z.lose(1);
            t.is("without the odd one", z.smoothed(1), 0);
        });
    }

    private static void evenOrNot(Sentences t, String text, boolean even) {
        WaveRows x = Due.of(text);
        t.is(text + " smoothed(1)", x.smoothed(1), even ? 0 : -1);
        t.is(text + " smoothSeen(1)", x.smoothSeen(1), even ? 0 : -1);
        t.is(text + " rule(0)", x.rule(0), even ? 0 : -1);
    }

    private static void smoothed(Sentences s) {
        s.terms("Promise 15: smoothed", "SMOOTHED by n (1 to all HEARERS, EVEN ones): n rows of n: for k, l the sum of COVERS of k and s,"
            + " l and s for all s from 0 on that there are.", t -> {
            // 28 times 28 and 15 times 15 come to P.
            WaveRows x = Due.of("hearer 0 gain 28;hearer 1 gain 15;sender a 0 1;");
            t.is("784 and 225 are 0: smoothed(1)", x.smoothed(1), 0);
            t.is("784 and 225 are 0: smoothSeen(1)", x.smoothSeen(1), 0);
            t.is("COVER itself: smoothed(2)", x.smoothed(2), 1);
            // 784, 225, 784 along the middle: each two come to 0.
            WaveRows y = Due.of("lattice 2;hearer 0 gain 28;hearer 1 gain 15;hearer 2 gain 28;sender a 0 1;");
            t.is("two rows of two: smoothed(2)", y.smoothed(2), 2);
            t.is("three rows of one: smoothed(1)", y.smoothed(1), 1);
            t.is("one row of three: smoothed(3)", y.smoothed(3), 1);
            t.is("one row of three: smoothSeen(3)", y.smoothSeen(3), 0);
            t.is("one row of three: order()", y.order(), y.smoothed(3));
        });
        s.terms("Promise 16: smoothSeen", "SEEN by it: as above, of WAVES at 0 .. n less 1, without GAINS.", t -> {
            // From place 20 on, the rows are as from place 0.
            WaveRows x = Due.of(hearers(4, 20) + "sender a 3 10;sender b 11 1 like a;");
            t.is("told apart by three", x.smoothSeen(3), bits(3, 11));
            t.is("not by four", x.smoothSeen(4), 0);
            WaveRows gained = Due.of("hearer 0;hearer 1 gain 2;sender a 3 10;");
            t.is("gains 1 and 2", gained.smoothSeen(2), 0);
            t.is("gains 1 and 2: seen()", gained.seen(), bits(3));
            WaveRows alike = Due.of("hearer 0 gain 2;hearer 1 gain 2;sender a 3 10;");
            t.is("gains 2 and 2", alike.smoothSeen(2), bits(3));
        });
        s.says("Promise 15: smoothed", "ORDER of COVER SMOOTHED by n; NONE: not as told.", t -> {
            WaveRows x = Due.of(hearers(4, 20) + "sender a 3 10;sender b 11 1 like a;");
            int[] due = {-1, 1, 2, 2, 1, -1};
            for (int n = 0; n < due.length; n++) {
                t.is("smoothed(" + n + ")", x.smoothed(n), due[n]);
            }
            for (int n : FAR) {
                t.is("smoothed(" + n + ")", x.smoothed(n), -1);
            }
            WaveRows ten = Due.of("lattice 60;" + hearers(10, 90) + "sender a 59 1;sender b 0 2;sender c 31 3;");
            t.is("ten: smoothed(10)", ten.smoothed(10), 3);
            t.is("ten: smoothed(11)", ten.smoothed(11), -1);
            t.is("ten: smoothed(2)", ten.smoothed(2), 2);
            t.is("not EVEN: smoothed(2)", Due.of("hearer 0;hearer 2;sender a 1 1;").smoothed(2), -1);
            t.is("no HEARERS: smoothed(0)", new WaveRows().smoothed(0), -1);
            t.is("no HEARERS: smoothed(1)", new WaveRows().smoothed(1), -1);
            x.lose(3);
            t.is("with one lost: smoothed(4)", x.smoothed(4), -1);
            t.is("with one lost: smoothed(3)", x.smoothed(3), 1);
        });
    }

    private static void smoothSeen(Sentences s) {
        s.says("Promise 16: smoothSeen", "Directions SEEN by COVER SMOOTHED by n, as bits; NONE: not as told.", t -> {
            WaveRows x = Due.of(hearers(4, 20) + "sender a 3 10;sender b 11 1 like a;");
            long[] due = {-1, 4095, 4095, bits(3, 11), 0, -1};
            for (int n = 0; n < due.length; n++) {
                t.is("smoothSeen(" + n + ")", x.smoothSeen(n), due[n]);
            }
            for (int n : FAR) {
                t.is("smoothSeen(" + n + ")", x.smoothSeen(n), -1);
            }
            WaveRows ten = Due.of("lattice 60;" + hearers(10, 90) + "sender a 59 1;sender b 0 2;sender c 31 3;");
            t.is("ten: smoothSeen(10)", ten.smoothSeen(10), bits(59, 0, 31));
            t.is("ten: smoothSeen(1)", ten.smoothSeen(1), (1L << 60) - 1);
            t.is("ten: smoothSeen(11)", ten.smoothSeen(11), -1);
            t.is("no SENDERS: smoothSeen(1)", Due.of("hearer 0;").smoothSeen(1), 0);
            t.is("not EVEN: smoothSeen(2)", Due.of("hearer 0;hearer 2;sender a 1 1;").smoothSeen(2), -1);
            t.is("backwards: smoothSeen(1)", Due.of("hearer 2;hearer 1;sender a 1 1;").smoothSeen(1), -1);
            t.is("no HEARERS: smoothSeen(0)", new WaveRows().smoothSeen(0), -1);
            t.is("no HEARERS: smoothSeen(1)", new WaveRows().smoothSeen(1), -1);
        });
    }

    private static void apart(Sentences s) {
        s.terms("Promise 17: apart", "APART l: how many pairs of HEARERS (in order) stand PLACES l apart, the first one farther"
            + " (0: each with itself).", t -> {
            WaveRows x = Due.of("hearer 5;hearer 2;hearer 6;hearer 3;hearer 99;");
            int[] due = {5, 2, 1, 2, 1, 0};
            for (int l = 0; l < due.length; l++) {
                t.is("apart(" + l + ")", x.apart(l), due[l]);
            }
            t.is("apart(97)", x.apart(97), 1);
            t.is("apart(98)", x.apart(98), 0);
            t.is("one alone: apart(0)", Due.of("hearer 5;").apart(0), 1);
            t.is("each with itself alone: apart(1)", Due.of("hearer 5;").apart(1), 0);
            WaveRows ten = Due.of(hearers(10, 0));
            for (int l = 0; l <= 10; l++) {
                t.is("ten: apart(" + l + ")", ten.apart(l), 10 - l);
            }
        });
        s.says("Promise 17: apart", "APART l (0 to 99); NONE: no such l.", t -> {
            WaveRows x = Due.of("hearer 0;hearer 99;hearer 1;");
            t.is("apart(0)", x.apart(0), 3);
            t.is("apart(99)", x.apart(99), 1);
            t.is("apart(98)", x.apart(98), 1);
            t.is("apart(97)", x.apart(97), 0);
            t.is("apart(-99)", x.apart(-99), -1);
            for (int l : FAR) {
                t.is("apart(" + l + ")", x.apart(l), -1);
                t.is("no HEARERS: apart(" + l + ")", new WaveRows().apart(l), -1);
            }
            t.is("no HEARERS: apart(0)", new WaveRows().apart(0), 0);
            t.is("no HEARERS: apart(99)", new WaveRows().apart(99), 0);
        });
    }

    private static void run(Sentences s) {
        s.terms("Promise 18: run", "RUN: the greatest l such that each of 0 .. l is there; none without HEARERS.", t -> {
            t.is("one alone", Due.of("hearer 50;").run(), 0);
            t.is("1 is not there", Due.of("hearer 0;hearer 2;hearer 5;").run(), 0);
            t.is("two", Due.of("hearer 51;hearer 50;").run(), 1);
            t.is("0, 1 and 3, for 4 is not there", Due.of("hearer 0;hearer 1;hearer 3;hearer 99;").run(), 3);
            t.is("0, 1, 3: up to 3", Due.of("hearer 3;hearer 0;hearer 1;").run(), 3);
            t.is("none", new WaveRows().run(), -1);
        });
        s.says("Promise 18: run", "RUN; NONE: no HEARERS.", t -> {
            t.is("none", new WaveRows().run(), -1);
            t.is("none, but SENDERS", Due.of("sender a 1 1;").run(), -1);
            WaveRows x = Due.of("hearer 7;hearer 8;");
            t.is("two", x.run(), 1);
            x.lose(0);
            t.is("one is left", x.run(), 0);
            x.lose(0);
            t.is("all are lost", x.run(), -1);
            t.is("0 and 99", Due.of("hearer 0;hearer 99;").run(), 0);
            t.is("ten, EVEN", Due.of(hearers(10, 90)).run(), 9);
            t.is("ten, far apart", Due.of("hearer 0;hearer 1;hearer 3;hearer 6;hearer 13;hearer 20;hearer 27;hearer 31;"
                + "hearer 35;hearer 36;").run(), 36);
        });
    }

    private static void lag(Sentences s) {
        s.terms("Promise 19: lag", "LAG l: COVER of the first such pair (by the first HEARER, then the other) through both GAINS"
            + " (0, if one is 0).", t -> {
            // Pairs one apart: hearers 2 and 1 (places 1, 0), then 3 and 0 (9, 8).
            WaveRows x = Due.of("lattice 4;hearer 8 gain 5;hearer 0 gain 7;hearer 1 gain 11;hearer 9 gain 13;"
                + "sender a 1 10;sender b 0 3 like a;");
            int there = 10 * W[1] + 3;
            t.is("lag(0)", x.lag(0), 169);
            t.is("lag(1)", x.lag(1), there * 13 % P);
            t.is("lag(1) times both GAINS", x.lag(1) * 77 % P, x.cover(2, 1));
            t.is("lag(7)", x.lag(7), 13 * (10 * W[3] + 3) % P);
            Due.readings(x, 1, 1, 0, 1);
            x.mend(0);
            t.is("the first one's GAIN is 0: lag(1)", x.lag(1), 0);
            t.is("neither is 0: lag(8)", x.lag(8), 169);
            t.is("neither is 0: lag(0)", x.lag(0), 169);
            Due.readings(x, 1, 0, 1, 1);
            x.mend(0);
            t.is("the other's GAIN is 0: lag(1)", x.lag(1), 0);
            t.is("the other's GAIN is 0, of the first pair: lag(8)", x.lag(8), 0);
            t.is("of another pair: lag(9)", x.lag(9), 0);
            x.lose(0);
            t.is("the first itself has no GAIN: lag(0)", x.lag(0), 0);
        });
        s.says("Promise 19: lag", "LAG l; NONE: no such pair.", t -> {
            WaveRows x = Due.of("lattice 4;hearer 99;hearer 0;hearer 3;sender a 0 3;");
            t.is("lag(0)", x.lag(0), 9);
            t.is("lag(3)", x.lag(3), 9);
            t.is("lag(96)", x.lag(96), 9);
            t.is("lag(99)", x.lag(99), 9);
            t.is("lag(1)", x.lag(1), -1);
            t.is("lag(98)", x.lag(98), -1);
            for (int l : FAR) {
                t.is("lag(" + l + ")", x.lag(l), -1);
            }
            // The first one is the farther one: less than 0 there is none.
            t.is("lag(-3)", x.lag(-3), -1);
            t.is("lag(-99)", x.lag(-99), -1);
            t.is("no HEARERS: lag(0)", new WaveRows().lag(0), -1);
            t.is("no SENDERS: lag(0)", Due.of("hearer 5;").lag(0), 0);
            t.is("one alone: lag(1)", Due.of("hearer 5;").lag(1), -1);
        });
    }
}

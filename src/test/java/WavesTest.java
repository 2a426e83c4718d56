/** Promises 6 to 11 and 17 to 19: hearers, senders, the moment, waves, readings, covers, places between places. */
public final class WavesTest {
    private static final Due DUE = new Due();
    private static final int P = 1009;
    // W for 4 directions, and its powers.
    private static final int[] W = {1, 469, 1008, 540};

    public static void main(String[] args) {
        hearers();
        senders();
        flocks();
        moments();
        waves();
        readings();
        covers();
        coversOfFlocks();
        distances();
        lags();
        DUE.close("WavesTest");
    }

    private static void hearers() {
        WaveRows x = Due.of("hearer 7 gain 20;hearer 3;");
        DUE.is("hearer(0, 0)", x.hearer(0, 0), 7);
        DUE.is("hearer(0, 1)", x.hearer(0, 1), 20);
        DUE.is("hearer(1, 0)", x.hearer(1, 0), 3);
        DUE.is("hearer(1, 1)", x.hearer(1, 1), 1);
        DUE.throwsNoSuch("hearer(2, 0)", () -> x.hearer(2, 0));
        DUE.throwsNoSuch("hearer(-1, 0)", () -> x.hearer(-1, 0));
        DUE.throwsNoSuch("hearer(0, 2)", () -> x.hearer(0, 2));
        DUE.throwsNoSuch("hearer(0, -1)", () -> x.hearer(0, -1));
        DUE.throwsNoSuch("hearer(MIN, 0)", () -> x.hearer(Integer.MIN_VALUE, 0));
    }

    private static void senders() {
        WaveRows x = Due.of("lattice 5;sender a 4 17 drifts 3;sender b 2 999;");
        DUE.is("sender(0, 0)", x.sender(0, 0), 4);
        DUE.is("sender(0, 1)", x.sender(0, 1), 17);
        DUE.is("sender(0, 2)", x.sender(0, 2), 3);
        DUE.is("sender(0, 3)", x.sender(0, 3), 0);
        DUE.is("sender(1, 0)", x.sender(1, 0), 2);
        DUE.is("sender(1, 1)", x.sender(1, 1), 999);
        DUE.is("sender(1, 2)", x.sender(1, 2), 0);
        DUE.is("sender(1, 3)", x.sender(1, 3), 1);
        x.moment(1);
        DUE.is("a moment on: sender(0, 0)", x.sender(0, 0), 2);
        DUE.is("a moment on: sender(1, 0)", x.sender(1, 0), 2);
        x.moment(999);
        DUE.is("999 on: sender(0, 0)", x.sender(0, 0), (4 + 3 * 999) % 5);
        DUE.throwsNoSuch("sender(2, 0)", () -> x.sender(2, 0));
        DUE.throwsNoSuch("sender(-1, 0)", () -> x.sender(-1, 0));
        DUE.throwsNoSuch("sender(0, 4)", () -> x.sender(0, 4));
        DUE.throwsNoSuch("sender(0, -1)", () -> x.sender(0, -1));
    }

    private static void flocks() {
        WaveRows x = Due.of("sender a 1 1;sender b 1 1;sender c 1 1 like b;sender d 1 1 like a;sender e 1 1 like c;"
            + "sender f 1 1 like d;");
        int[] due = {0, 1, 1, 0, 1, 0};
        for (int s = 0; s < due.length; s++) {
            DUE.is("sender(" + s + ", 3)", x.sender(s, 3), due[s]);
        }
    }

    private static void moments() {
        WaveRows x = new WaveRows();
        DUE.is("moment(999)", x.moment(999), true);
        DUE.is("moment(1000)", x.moment(1000), false);
        DUE.is("moment(-1)", x.moment(-1), false);
        DUE.is("it stays", x.count(7), 999);
        DUE.is("moment(0)", x.moment(0), true);
        DUE.is("it went", x.count(7), 0);
    }

    private static void waves() {
        WaveRows x = Due.of("lattice 4;");
        for (int d = 0; d < 4; d++) {
            for (int p = 0; p <= 99; p++) {
                DUE.is("wave(" + d + ", " + p + ")", x.wave(d, p), W[d * p % 4]);
            }
        }
        DUE.is("wave(4, 0)", x.wave(4, 0), -1);
        DUE.is("wave(-1, 0)", x.wave(-1, 0), -1);
        DUE.is("wave(0, 100)", x.wave(0, 100), -1);
        DUE.is("wave(0, -1)", x.wave(0, -1), -1);
    }

    private static void readings() {
        WaveRows x = Due.of("lattice 4;hearer 1 gain 3;hearer 4;sender a 1 7 drifts 1;sender b 3 2;");
        DUE.is("reading(0)", x.reading(0), 3 * (7 * W[1] + 2 * W[3]) % P);
        DUE.is("reading(1)", x.reading(1), 9);
        DUE.is("reading(2)", x.reading(2), -1);
        DUE.is("reading(-1)", x.reading(-1), -1);
        x.moment(2);
        DUE.is("at moment 2: reading(0)", x.reading(0), 3 * 9 * W[3] % P);
        WaveRows y = Due.of("hearer 1;");
        DUE.is("without senders: reading(0)", y.reading(0), 0);
    }

    private static void covers() {
        WaveRows x = Due.of("lattice 4;hearer 1 gain 3;hearer 4;sender a 1 7 drifts 1;sender b 3 2;");
        DUE.is("cover(0, 0)", x.cover(0, 0), 9 * 53);
        DUE.is("cover(0, 1)", x.cover(0, 1), 3 * (49 * W[1] + 4 * W[3]) % P);
        DUE.is("cover(1, 0)", x.cover(1, 0), 3 * (49 * W[3] + 4 * W[1]) % P);
        DUE.is("cover(1, 1)", x.cover(1, 1), 53);
        x.moment(1);
        DUE.is("at moment 1: cover(0, 1)", x.cover(0, 1), 3 * (49 * W[2] + 4 * W[3]) % P);
        DUE.is("cover(2, 0)", x.cover(2, 0), -1);
        DUE.is("cover(0, 2)", x.cover(0, 2), -1);
        DUE.is("cover(-1, 0)", x.cover(-1, 0), -1);
        DUE.is("cover(0, -1)", x.cover(0, -1), -1);
    }

    private static void coversOfFlocks() {
        WaveRows x = Due.of("lattice 4;hearer 1 gain 3;hearer 4;sender a 1 7;sender c 0 1;sender b 3 2 like a;");
        int there = 7 * W[1] + 2 * W[3];
        int back = 7 * W[3] + 2 * W[1];
        DUE.is("flocks: cover(0, 0)", x.cover(0, 0), 9L * ((long) there * back % P + 1) % P);
        DUE.is("flocks: cover(0, 1)", x.cover(0, 1), 3L * (there % P * 9 + 1) % P);
        DUE.is("flocks: cover(1, 0)", x.cover(1, 0), 3L * (back % P * 9 + 1) % P);
        DUE.is("flocks: cover(1, 1)", x.cover(1, 1), 82);
    }

    private static void distances() {
        WaveRows x = Due.of("hearer 5;hearer 2;hearer 6;hearer 3;hearer 99;");
        int[] due = {5, 2, 1, 2, 1, 0};
        for (int l = 0; l < due.length; l++) {
            DUE.is("apart(" + l + ")", x.apart(l), due[l]);
        }
        DUE.is("apart(97)", x.apart(97), 1);
        DUE.is("apart(99)", x.apart(99), 0);
        DUE.is("apart(100)", x.apart(100), -1);
        DUE.is("apart(-1)", x.apart(-1), -1);
        DUE.is("run()", x.run(), 4);
        DUE.is("one alone: run()", Due.of("hearer 50;").run(), 0);
        DUE.is("0 and 99: run()", Due.of("hearer 0;hearer 99;").run(), 0);
        DUE.is("0 and 99: apart(99)", Due.of("hearer 0;hearer 99;").apart(99), 1);
        DUE.is("none: run()", new WaveRows().run(), -1);
        // Ten hearers of which each length up to 36 stands somewhere between two.
        WaveRows y = Due.of("hearer 0;hearer 1;hearer 3;hearer 6;hearer 13;hearer 20;hearer 27;hearer 31;hearer 35;"
            + "hearer 36;");
        DUE.is("ten: run()", y.run(), 36);
    }

    private static void lags() {
        // Pairs one apart: hearers 2 and 1 (places 1, 0), then 3 and 0 (9, 8).
        WaveRows x = Due.of("lattice 4;hearer 8 gain 5;hearer 0 gain 7;hearer 1 gain 11;hearer 9 gain 13;"
            + "sender a 1 10;sender b 0 3 like a;");
        int there = 10 * W[1] + 3;
        DUE.is("lag(0)", x.lag(0), 169);
        DUE.is("lag(1)", x.lag(1), there * 13 % P);
        DUE.is("lag(1) by cover", x.lag(1) * 77 % P, x.cover(2, 1));
        // 8 apart: hearers 0 and 1 ahead of 3 and 2.
        DUE.is("lag(8)", x.lag(8), 169);
        DUE.is("lag(7)", x.lag(7), 13 * (10 * W[3] + 3) % P);
        DUE.is("lag(2)", x.lag(2), -1);
        DUE.is("lag(99)", x.lag(99), -1);
        DUE.is("lag(99) of 0 and 99", Due.of("hearer 99;hearer 0;sender a 0 3;").lag(99), 9);
        DUE.is("lag(100)", x.lag(100), -1);
        DUE.is("lag(-1)", x.lag(-1), -1);
        // A gain that is 0 now.
        Due.readings(x, 1, 1, 0, 1);
        DUE.is("mended", x.mend(0), true);
        DUE.is("without a gain: lag(1)", x.lag(1), 0);
        DUE.is("with both: lag(8)", x.lag(8), 169);
        DUE.is("lag(0) by the first hearer", x.lag(0), 169);
    }
}

/** Promises 24 to 36: TRACKS, ENOUGH, hearers lost, FEWEST, LIARS, NULLED and HIDDEN gains. */
public final class GivenReadingsTest {
    private static final Due DUE = new Due();
    private static final int P = 1009;
    private static final int[] W = {1, 469, 1008, 540};

    public static void main(String[] args) {
        tracks();
        tracksNotAsTold();
        tracksOfNothing();
        enough();
        losing();
        fewest();
        fewestOfMany();
        fewestFromZero();
        most();
        fewestNotAsTold();
        liars();
        liarsNotAsTold();
        nulls();
        nullsOfTwins();
        comings();
        mending();
        DUE.close("GivenReadingsTest");
    }

    private static final String FOUR = "lattice 4;hearer 0;hearer 1;hearer 2;hearer 3;";

    private static int tracked(WaveRows x, int h, int... readings) {
        Due.readings(x, readings);
        int tracks = x.tracks(h);
        DUE.is("tracks empties the tape", x.count(8), 0);
        return tracks;
    }

    private static void track(String why, WaveRows x, int d, int v, int a) {
        DUE.is(why + ": track(0)", x.track(0), d);
        DUE.is(why + ": track(1)", x.track(1), v);
        DUE.is(why + ": track(2)", x.track(2), a);
        DUE.is(why + ": track(3)", x.track(3), -1);
        DUE.is(why + ": track(-1)", x.track(-1), -1);
    }

    private static void tracks() {
        WaveRows x = Due.of("lattice 4;hearer 0;hearer 1 gain 3;hearer 2;");
        DUE.is("ahead of any: track(0)", x.track(0), -1);
        // A 2 from direction 1, drifting by 3: any D does, with another A.
        DUE.is("drift 3", tracked(x, 1, 6 * W[1] % P, 6 * W[0], 6 * W[3] % P, 6 * W[2] % P), 4);
        track("drift 3", x, 0, 3, 2 * W[1] % P);
        // At place 2 a drift by 1 is heard as one by 3.
        DUE.is("place 2", tracked(x, 2, 5, P - 5, 5), 8);
        track("place 2", x, 0, 1, 5);
        DUE.is("place 0", tracked(x, 0, 7, 7 + P, 7 + 2 * P), 16);
        track("place 0", x, 0, 0, 7);
        DUE.is("one reading", tracked(x, 1, 3), 16);
        track("one reading", x, 0, 0, 1);
        DUE.is("no such track", tracked(x, 1, 3, 4), 0);
        DUE.is("nor at place 0", tracked(x, 0, 3, 4), 0);
        DUE.is("none that begins", tracked(x, 1, 0, 4), 0);
        track("the latest above 0 stays", x, 0, 0, 1);
        DUE.is("eight readings", tracked(x, 1, 3, 3, 3, 3, 3, 3, 3, 3), 4);
        DUE.is("the eighth is off", tracked(x, 1, 3, 3, 3, 3, 3, 3, 3, 4), 0);
        Due.told(x, "lattice 60;hearer 1;");
        track("the latest stays", x, 0, 0, 1);
        DUE.is("sixty", tracked(x, 0, 9), 3600);
    }

    private static void tracksNotAsTold() {
        WaveRows x = Due.of(FOUR);
        DUE.is("nine readings", tracked(x, 0, 1, 1, 1, 1, 1, 1, 1, 1, 1), -1);
        DUE.is("eleven readings", tracked(x, 0, 1, 1, 1, 1, 1, 1, 1, 1, 1, 1, 1), -1);
        DUE.is("no reading", tracked(x, 0), -1);
        DUE.is("no such hearer", tracked(x, 4, 1), -1);
        DUE.is("hearer -1", tracked(x, -1, 1), -1);
        Due.tape(x, 0, 1, 0);
        DUE.is("half a reading", x.tracks(0), -1);
        DUE.is("half a reading: the tape", x.count(8), 0);
        DUE.is("no track yet", x.track(0), -1);
    }

    private static void tracksOfNothing() {
        WaveRows x = Due.of(FOUR);
        DUE.is("readings 0", tracked(x, 1, 0, P), 16);
        track("readings 0", x, 0, 0, 0);
        Due.readings(x, 1, 0, 1, 1);
        x.mend(0);
        DUE.is("gain 0, readings not", tracked(x, 1, 1), 0);
        DUE.is("one reading", tracked(x, 0, 7), 16);
        DUE.is("gain 0, readings 0", tracked(x, 1, 0, 0), 16);
        track("gain 0", x, 0, 0, 0);
    }

    private static void enough() {
        DUE.is("places 0, 1", Due.of(FOUR).enough(), 3);
        DUE.is("places 0, 2, 4, 1", Due.of("lattice 4;hearer 0;hearer 2;hearer 4;hearer 1;").enough(), 9);
        DUE.is("the least set as bits", Due.of("lattice 4;hearer 0;hearer 2;hearer 1;hearer 3;").enough(), 5);
        DUE.is("two are found", Due.of("hearer 0;hearer 6;hearer 4;hearer 3;").enough(), 12);
        // 8, 3 and 5 apart: each pair leaves a turn unheard, the three together none.
        DUE.is("three are needed", Due.of("lattice 30;hearer 0;hearer 30;hearer 8;hearer 3;").enough(), 13);
        DUE.is("the last three", Due.of("lattice 60;hearer 0;hearer 6;hearer 10;hearer 15;").enough(), 14);
        DUE.is("ten", Due.of("lattice 60;hearer 0;hearer 2;hearer 4;hearer 6;hearer 8;hearer 10;hearer 12;hearer 14;"
            + "hearer 16;hearer 21;").enough(), 1 << 9 | 1 << 1);
        DUE.is("not all are", Due.of("lattice 4;hearer 1;hearer 3;hearer 99;").enough(), -1);
        DUE.is("one", Due.of("lattice 2;hearer 1;").enough(), -1);
        DUE.is("none", new WaveRows().enough(), -1);
    }

    private static void losing() {
        WaveRows x = Due.of("hearer 5 gain 2;hearer 6 gain 3;hearer 7 gain 4;");
        DUE.is("lose(3)", x.lose(3), -1);
        DUE.is("lose(-1)", x.lose(-1), -1);
        DUE.is("lose(0)", x.lose(0), 2);
        DUE.is("hearer(0, 0)", x.hearer(0, 0), 6);
        DUE.is("hearer(0, 1)", x.hearer(0, 1), 3);
        DUE.is("hearer(1, 0)", x.hearer(1, 0), 7);
        DUE.is("hearer(1, 1)", x.hearer(1, 1), 4);
        DUE.throwsNoSuch("hearer(2, 0)", () -> x.hearer(2, 0));
        DUE.is("lose(1)", x.lose(1), 1);
        DUE.is("count(3)", x.count(3), 1);
        DUE.is("the last lose(0)", x.lose(0), 0);
        DUE.is("none: lose(0)", x.lose(0), -1);
    }

    private static int fewest(WaveRows x, int... readings) {
        Due.readings(x, readings);
        int fewest = x.fewest();
        DUE.is("fewest empties the tape", x.count(8), 0);
        return fewest;
    }

    /** Sets, then each direction and its number. */
    private static void made(String why, WaveRows x, int sets, int... pairs) {
        DUE.is(why + ": made(NONE)", x.made(-1), sets);
        for (int i = 0; i < pairs.length / 2; i++) {
            DUE.is(why + ": made(" + i + ")", x.made(i), pairs[2 * i]);
            DUE.is(why + ": madeBy(" + i + ")", x.madeBy(i), pairs[2 * i + 1]);
        }
        DUE.is(why + ": made behind", x.made(pairs.length / 2), -1);
        DUE.is(why + ": madeBy behind", x.madeBy(pairs.length / 2), -1);
        DUE.is(why + ": made(-2)", x.made(-2), -1);
        DUE.is(why + ": madeBy(-1)", x.madeBy(-1), -1);
    }

    private static void fewest() {
        WaveRows x = Due.of(FOUR);
        made("ahead of any", x, -1);
        DUE.is("all 0", fewest(x, 0, P, 0, 2 * P), 0);
        made("all 0", x, 1);
        DUE.is("one", fewest(x, 6, 6 * W[3], 6 * W[2], 6 * W[1]), 1);
        made("one", x, 1, 3, 6);
        DUE.is("two", fewest(x, 7, 2 + 5 * W[2] % P, 7, 2 + 5 * W[2] % P), 2);
        made("two", x, 1, 0, 2, 2, 5);
        DUE.is("three", fewest(x, 7, 1 + 2 * W[1] + 4 * W[3], 1 + 6 * W[2], 1 + 2 * W[3] + 4 * W[1]), 3);
        made("three", x, 1, 0, 1, 1, 2, 3, 4);
        DUE.is("four", fewest(x, 5, 0, 0, 0), -1);
        made("the latest stays", x, 1, 0, 1, 1, 2, 3, 4);
        WaveRows y = Due.of("lattice 4;hearer 0 gain 3;hearer 1 gain 5;hearer 99;");
        DUE.is("gains", fewest(y, 3 * 7, 5 * 7 * W[1] % P, 7 * W[3] % P), 1);
        made("gains", y, 1, 1, 7);
        Due.told(y, "");
        made("gains, of another field", y, 1, 1, 7);
        DUE.is("no hearers", fewest(y), 0);
        made("no hearers", y, 1);
    }

    private static void fewestOfMany() {
        WaveRows x = Due.of("lattice 4;hearer 0;hearer 2;");
        // 0 and 2, 1 and 3 are twins.
        DUE.is("twins, one", fewest(x, 9, P - 9), 1);
        made("twins, one", x, 2, 1, 9);
        DUE.is("twins, two", fewest(x, 9, 0), 2);
        made("twins, two", x, 4, 0, 505 * 9 % P, 1, 505 * 9 % P);
        WaveRows y = Due.of("lattice 5;hearer 3;");
        DUE.is("one hearer", fewest(y, 9), 1);
        made("one hearer", y, 5, 0, 9);
        WaveRows z = Due.of("lattice 60;hearer 0;hearer 1;hearer 2;");
        DUE.is("three of sixty", fewest(z, 1, 0, 0), 3);
        DUE.is("three of sixty: all sets", z.made(-1), 60 * 59 * 58 / 6);
        DUE.is("three of sixty: made(2)", z.made(2), 2);
        DUE.is("two directions, three readings", fewest(Due.of("lattice 2;hearer 0;hearer 1;hearer 2;"), 1, 2, 3), -1);
        WaveRows v = Due.of(FOUR);
        Due.readings(v, 1, 1, 0, 1);
        v.mend(0);
        DUE.is("a gain 0, a reading not", fewest(v, 0, 0, 1, 0), -1);
        DUE.is("a gain 0", fewest(v, 1, W[1], 0, W[3]), 1);
        made("a gain 0", v, 1, 1, 1);
    }

    private static void fewestFromZero() {
        WaveRows x = Due.of("lattice 5;hearer 0;hearer 1;hearer 2;hearer 3;hearer 4;");
        int p = x.count(1);
        int[] two = new int[5];
        int[] three = new int[5];
        for (int h = 0; h < 5; h++) {
            two[h] = (5 * x.wave(1, h) + (p - 5) * x.wave(3, h)) % p;
            three[h] = (two[h] + 7 * x.wave(2, h) + (p - 7) * x.wave(4, h)) % p;
        }
        DUE.is("the first is 0", fewest(x, two), 2);
        made("the first is 0", x, 1, 1, 5, 3, p - 5);
        DUE.is("four, the first is 0", fewest(x, three), -1);
        DUE.is("the first is 0, lied about", lying(x, 2, two[0], two[1], two[2], two[3], two[4] + 1), 1);
        first("the first is 0, lied about", x, 1, 4);
        // Directions 3 apart are twins: one of each pair of twins, and never both.
        WaveRows y = Due.of("lattice 6;hearer 0;hearer 2;hearer 4;");
        int[] r = new int[3];
        for (int h = 0; h < 3; h++) {
            r[h] = (8 + 5 * y.wave(1, 2 * h) + 3 * y.wave(2, 2 * h)) % P;
        }
        DUE.is("three, of twins", fewest(y, r), 3);
        made("three, of twins", y, 8, 0, 8, 1, 5, 2, 3);
    }

    /** As much of all as there may be. */
    private static void most() {
        WaveRows x = Due.of("lattice 60;hearer 90;hearer 91;hearer 92;hearer 93;hearer 94;hearer 95;hearer 96;hearer 97;"
            + "hearer 98;hearer 99 gain 3;sender a 59 999;sender b 1 1;sender c 2 1;sender d 3 1;sender e 4 1;"
            + "sender f 5 1 drifts 59;");
        int p = x.count(1);
        int[] r = new int[10];
        for (int h = 0; h < 10; h++) {
            r[h] = (h == 9 ? 3 : 1) * ((4 * x.wave(59, 90 + h) + 5 * x.wave(58, 90 + h)) % p + 6 * x.wave(57, 90 + h)) % p;
        }
        DUE.is("ten: fewest", fewest(x, r), 3);
        made("ten: fewest", x, 1, 57, 6, 58, 5, 59, 4);
        DUE.is("ten: liars(2)", lying(x, 2, r), -1);
        for (int h = 0; h < 10; h++) {
            r[h] = (h == 9 ? 3 : 1) * ((4 * x.wave(59, 90 + h) + 5 * x.wave(58, 90 + h)) % p) % p;
        }
        r[8] = (r[8] + 1) % p;
        r[9] = (r[9] + 1) % p;
        DUE.is("ten: liars(2), two of them", lying(x, 2, r), 2);
        first("ten: liars(2), two of them", x, 1, 8, 9);
        DUE.is("ten: nulled", nulled(x, 59, 0, 1, 2, 3, 4, 5), true);
        DUE.is("ten: comes(59)", x.comes(59), 1);
        DUE.is("ten: comes(5)", x.comes(5), 0);
        DUE.is("ten: number(9)", x.number(9), 0);
        for (int h = 0; h < 10; h++) {
            r[h] = 2 * (h + 1) * x.wave(7, 90 + h) % p;
        }
        DUE.is("ten: mend", mended(x, 7, r), true);
        gains("ten: mend", x, 1, 2, 3, 4, 5, 6, 7, 8, 9, 10);
        DUE.is("ten: lose(9)", x.lose(9), 9);
        gains("ten: lose(9)", x, 1, 2, 3, 4, 5, 6, 7, 8, 9);
        WaveRows y = Due.of("lattice 2;hearer 5 gain 4;");
        DUE.is("one: mend", mended(y, 1, 9), true);
        gains("one: mend", y, 4);
    }

    private static void fewestNotAsTold() {
        WaveRows x = Due.of(FOUR);
        DUE.is("too few", fewest(x, 0, 0, 0), -2);
        DUE.is("too many", fewest(x, 0, 0, 0, 0, 0), -2);
        DUE.is("far too many", fewest(x, new int[400]), -2);
        DUE.is("none", fewest(x), -2);
        Due.tape(x, new int[9]);
        DUE.is("half a reading", x.fewest(), -2);
        DUE.is("half a reading: the tape", x.count(8), 0);
        DUE.is("half a reading, no hearers", halfWithoutHearers(), -2);
        made("ahead of any", x, -1);
    }

    private static int halfWithoutHearers() {
        WaveRows x = new WaveRows();
        Due.tape(x, 0);
        return x.fewest();
    }

    private static int lying(WaveRows x, int k, int... readings) {
        Due.readings(x, readings);
        int liars = x.liars(k);
        DUE.is("liars empties the tape", x.count(8), 0);
        return liars;
    }

    private static void first(String why, WaveRows x, int sets, int... hearers) {
        DUE.is(why + ": liar(NONE)", x.liar(-1), sets);
        for (int i = 0; i < hearers.length; i++) {
            DUE.is(why + ": liar(" + i + ")", x.liar(i), hearers[i]);
        }
        DUE.is(why + ": liar behind", x.liar(hearers.length), -1);
        DUE.is(why + ": liar(-2)", x.liar(-2), -1);
    }

    private static void liars() {
        WaveRows x = Due.of(FOUR);
        first("ahead of any", x, -1);
        DUE.is("no liar, 0", lying(x, 0, 0, 0, 0, 0), 0);
        first("no liar, 0", x, 1);
        DUE.is("one, 0", lying(x, 0, 0, 0, 8, 0), 1);
        first("one, 0", x, 1, 2);
        DUE.is("two, 0", lying(x, 0, 0, 5, 8, 0), 2);
        first("two, 0", x, 1, 1, 2);
        DUE.is("three, 0", lying(x, 0, 0, 5, 8, 1), -1);
        first("the latest stays", x, 1, 1, 2);
        DUE.is("one, 1", lying(x, 1, 4, 4, 4, 5), 1);
        first("one, 1", x, 1, 3);
        DUE.is("0 at most, by 1", lying(x, 1, 0, 0, 0, 5), 1);
        first("0 at most, by 1", x, 1, 3);
        // Any pair of hearers side by side is heard alike from one direction, if one is 4 steps of it.
        DUE.is("two, 1", lying(x, 1, 4, 4, 5, 5), 2);
        first("two, 1", x, 2, 0, 1);
        DUE.is("any one, 2", lying(x, 2, 7, 2 + 5 * W[2] % P, 7, 99), 1);
        WaveRows y = Due.of("lattice 7;hearer 0;hearer 1;hearer 2;hearer 3;hearer 4;hearer 5;hearer 6 gain 3;");
        int p = y.count(1);
        int[] r = new int[7];
        for (int h = 0; h < 7; h++) {
            r[h] = (h == 6 ? 3 : 1) * (5 * y.wave(2, h) + 6 * y.wave(6, h)) % p;
        }
        DUE.is("none, 2", lying(y, 2, r), 0);
        first("none, 2", y, 1);
        r[6] = (r[6] + 1) % p;
        r[1] = (r[1] + 1) % p;
        DUE.is("two, 2", lying(y, 2, r), 2);
        first("two, 2", y, 1, 1, 6);
        Due.told(y, "hearer 1;");
        first("of another field", y, 1, 1, 6);
        DUE.is("the only one", lying(y, 0, 3), 1);
        first("the only one", y, 1, 0);
    }

    private static void liarsNotAsTold() {
        WaveRows x = Due.of(FOUR);
        DUE.is("k -1", lying(x, -1, 0, 0, 0, 0), -2);
        DUE.is("k 3", lying(x, 3, 0, 0, 0, 0), -2);
        DUE.is("too few", lying(x, 0, 0, 0, 0), -2);
        DUE.is("too many", lying(x, 0, 0, 0, 0, 0, 0), -2);
        Due.tape(x, new int[7]);
        DUE.is("half a reading", x.liars(0), -2);
        first("ahead of any", x, -1);
    }

    private static boolean nulled(WaveRows x, int... directions) {
        Due.tape(x, directions);
        boolean nulled = x.nulled();
        DUE.is("nulled empties the tape", x.count(8), 0);
        return nulled;
    }

    private static void numbers(String why, WaveRows x, int... numbers) {
        for (int h = 0; h < numbers.length; h++) {
            DUE.is(why + ": number(" + h + ")", x.number(h), numbers[h]);
        }
        DUE.is(why + ": number behind", x.number(numbers.length), -1);
        DUE.is(why + ": number(-1)", x.number(-1), -1);
    }

    private static void nulls() {
        WaveRows x = Due.of("lattice 4;hearer 0 gain 2;hearer 1;hearer 2;");
        numbers("ahead of any", x);
        DUE.is("one", nulled(x, 3), true);
        numbers("one", x, 505, 0, 0);
        // 2a + b = 1, 2a - b = 0.
        DUE.is("two", nulled(x, 0, 2), true);
        numbers("two", x, P - 252, 505, 0);
        // 2a + b + c = 0 and 2a - b + c = 0, so b is 0; 2a - c = 1.
        DUE.is("three", nulled(x, 1, 0, 2), true);
        numbers("three", x, 757, 0, P - 505);
        DUE.is("three: comes(1)", x.comes(1), 1);
        DUE.is("three: comes(0)", x.comes(0), 0);
        DUE.is("three: comes(2)", x.comes(2), 0);
        DUE.is("four of three hearers", nulled(x, 0, 1, 2, 3), false);
        DUE.is("twice the same", nulled(x, 0, 2, 2), false);
        DUE.is("twice the same, not side by side", nulled(x, 1, 0, 2, 0), false);
        DUE.is("the first again", nulled(x, 0, 2, 0), false);
        DUE.is("no direction told", nulled(x), false);
        DUE.is("no such direction", nulled(x, 4), false);
        DUE.is("no such one behind", nulled(x, 0, 255), false);
        DUE.is("no hearers", nulled(new WaveRows(), 0), false);
        numbers("the latest stays", x, 757, 0, P - 505);
        seven();
    }

    private static void seven() {
        WaveRows x = Due.of("lattice 8;hearer 0;hearer 1;hearer 2;hearer 3;hearer 4;hearer 5;hearer 6;hearer 7;");
        DUE.is("seven", nulled(x, 7, 0, 1, 2, 3, 4, 5), true);
        DUE.is("seven: comes(7)", x.comes(7), 1);
        for (int d = 0; d <= 5; d++) {
            DUE.is("seven: comes(" + d + ")", x.comes(d), 0);
        }
        DUE.is("seven: the eighth hearer", x.number(7), 0);
        DUE.is("eight", nulled(x, 0, 1, 2, 3, 4, 5, 6, 7), false);
    }

    private static void nullsOfTwins() {
        WaveRows x = Due.of("lattice 4;hearer 2;hearer 0;hearer 1;");
        // By directions 0 and 2 the second hearer's column is that of the first.
        DUE.is("a column of lesser ones", nulled(x, 0, 2), true);
        numbers("a column of lesser ones", x, 505, 0, 505);
        DUE.is("twins", nulled(Due.of("lattice 4;hearer 0;hearer 2;"), 0, 2), false);
    }

    private static void comings() {
        WaveRows x = Due.of("lattice 4;hearer 0;hearer 1;");
        DUE.is("ahead of any: comes(0)", x.comes(0), -1);
        nulled(x, 1, 3);
        DUE.is("comes(1)", x.comes(1), 1);
        DUE.is("comes(3)", x.comes(3), 0);
        DUE.is("comes(0)", x.comes(0), (x.number(0) + x.number(1)) % P);
        DUE.is("comes(4)", x.comes(4), -1);
        DUE.is("comes(-1)", x.comes(-1), -1);
        int first = x.number(0);
        int second = x.number(1);
        Due.told(x, "lattice 5;hearer 1 gain 3;hearer 2;");
        DUE.is("hearers of now", x.comes(2), (first * 3L * x.wave(2, 1) + second * (long) x.wave(2, 2)) % 1021);
        DUE.is("direction of now", x.comes(4) == -1, false);
        x.lose(0);
        DUE.is("another many", x.comes(2), -1);
        numbers("those of then", x, first, second);
        DUE.is("no hearers, ahead of any", new WaveRows().comes(0), -1);
    }

    private static boolean mended(WaveRows x, int d, int... readings) {
        Due.readings(x, readings);
        boolean mended = x.mend(d);
        DUE.is("mend empties the tape", x.count(8), 0);
        return mended;
    }

    private static void gains(String why, WaveRows x, int... gains) {
        for (int h = 0; h < gains.length; h++) {
            DUE.is(why + ": hearer(" + h + ", 1)", x.hearer(h, 1), gains[h]);
        }
    }

    private static void mending() {
        WaveRows x = Due.of("lattice 4;hearer 1 gain 6;hearer 2 gain 9;hearer 4;");
        int a = 5;
        DUE.is("hidden gains", mended(x, 1, 6 * a * W[1] % P, 14 * a * W[2] % P, 0), true);
        gains("hidden gains", x, 6, 14, 0);
        DUE.is("hidden gains: reading of none", x.cover(2, 2), 0);
        DUE.is("too few", mended(x, 1, 1, 1), false);
        DUE.is("too many", mended(x, 1, 1, 1, 1, 1), false);
        DUE.is("no such direction", mended(x, 4, 1, 1, 1), false);
        DUE.is("direction -1", mended(x, -1, 1, 1, 1), false);
        DUE.is("the first is 0", mended(x, 0, P, 1, 1), false);
        Due.tape(x, new int[] {0, 1, 0, 1, 0});
        DUE.is("half a reading", x.mend(0), false);
        gains("none of these", x, 6, 14, 0);
        DUE.is("no hearers", mended(new WaveRows(), 0), false);
        DUE.is("by the moment it was, not of now", x.moment(3) && mended(x, 0, 1, 1, 1), true);
        gains("all as the first", x, 6, 6, 6);
        mended(x, 0, 1, 0, 1);
        x.lose(0);
        gains("the first without gain", x, 0, 6);
        DUE.is("of the first without gain", mended(x, 2, 1, 1), true);
        gains("of the first without gain", x, 0, 0);
    }
}

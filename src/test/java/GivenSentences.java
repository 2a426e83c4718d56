/** The sentences of READINGS given, hearers lost, and what is NULLED: promises 24 to 36, and their terms. */
final class GivenSentences {
    private static final int P = 1009;
    private static final int[] W = {1, 469, 1008, 540};
    private static final int[] FAR = {Integer.MIN_VALUE, -3, -2, 10, 60, 1000, Integer.MAX_VALUE};
    private static final String FOUR = "lattice 4;hearer 0;hearer 1;hearer 2;hearer 3;";

    private GivenSentences() {
    }

    static void all(Sentences s) {
        tracksTerm(s);
        tracks(s);
        track(s);
        enough(s);
        lose(s);
        makes(s);
        fewestTerm(s);
        fewest(s);
        made(s);
        liarsTerm(s);
        liars(s);
        liar(s);
        nulledTerm(s);
        nulled(s);
        number(s);
        comes(s);
        hidden(s);
        mend(s);
    }

    private static String hearers(int many, int from) {
        StringBuilder text = new StringBuilder();
        for (int i = 0; i < many; i++) {
            text.append("hearer ").append(from + i).append(";");
        }
        return text.toString();
    }

    private static int tracked(WaveRows x, int h, int... readings) {
        Due.readings(x, readings);
        return x.tracks(h);
    }

    private static int fewest(WaveRows x, int... readings) {
        Due.readings(x, readings);
        return x.fewest();
    }

    private static int lying(WaveRows x, int k, int... readings) {
        Due.readings(x, readings);
        return x.liars(k);
    }

    private static boolean nulled(WaveRows x, int... directions) {
        Due.tape(x, directions);
        return x.nulled();
    }

    private static boolean mended(WaveRows x, int d, int... readings) {
        Due.readings(x, readings);
        return x.mend(d);
    }

    private static void toldTrack(Sentences t, String why, WaveRows x, int... due) {
        for (int what = 0; what < 3; what++) {
            t.is(why + ": track(" + what + ")", x.track(what), due[what]);
        }
    }

    private static void tracksTerm(Sentences s) {
        s.terms("Promise 24: tracks", "TRACKS of one SENDER alone: D and V (0 to N less 1 both) with which, for some A, READINGS given of a"
            + " HEARER at moments 0, 1, 2, .. are GAIN times A times WAVE of D and V times the moment at its PLACE.", t -> {
            WaveRows x = Due.of("lattice 4;hearer 0;hearer 1 gain 3;hearer 2;hearer 99;");
            t.is("a drift by 3", tracked(x, 1, 6 * W[1] % P, 6 * W[0], 6 * W[3] % P, 6 * W[2] % P), 4);
            toldTrack(t, "a drift by 3", x, 0, 3, 2 * W[1] % P);
            t.is("a drift by 1 or 3, at place 2", tracked(x, 2, 5, P - 5, 5), 8);
            toldTrack(t, "a drift by 1 or 3, at place 2", x, 0, 1, 5);
            t.is("no drift is heard at place 0", tracked(x, 0, 7, 7), 16);
            t.is("two readings unlike at place 0", tracked(x, 0, 7, 8), 0);
            t.is("place 99 is as place 3", tracked(x, 3, 1, W[3], W[2], W[1], 1, W[3], W[2], W[1]), 4);
            toldTrack(t, "place 99 is as place 3", x, 0, 1, 1);
            t.is("one reading, of which D, V are any", tracked(x, 1, 3), 16);
            // A by P: for D 3, A is 1007.
            t.is("A above 999", tracked(x, 1, 2814 % P, 2814 % P), 4);
            t.is("A is 0", tracked(x, 1, 0, 0), 16);
            toldTrack(t, "A is 0", x, 0, 0, 0);
            t.is("0 at first, then not", tracked(x, 1, 0, 1), 0);
            t.is("0 behind one that isn't", tracked(x, 1, 1, 0), 0);
            WaveRows sixty = Due.of("lattice 60;hearer 1;");
            int p = sixty.count(1);
            t.is("the greatest drift", tracked(sixty, 0, 5, 5 * sixty.wave(59, 1) % p, 5 * sixty.wave(58, 1) % p), 60);
            toldTrack(t, "the greatest drift", sixty, 0, 59, 5);
        });
    }

    private static void tracks(Sentences s) {
        String tracks = "Promise 24: tracks";
        s.says(tracks, "TRACKS by READINGS of HEARER h, the tape's"
            + " (two bytes each, the higher first; each its rest by P; 1 to 8 of them): how many;", t -> {
            WaveRows x = Due.of(FOUR);
            Due.tape(x, 1, 0, 1, 0);
            t.is("256, 256", x.tracks(1), 4);
            toldTrack(t, "256, 256", x, 0, 0, 256);
            Due.tape(x, 0, 1, 4, 0xf1 + 1, 0xff, 0xff);
            t.is("1, 1266, 65535 by P", x.tracks(0), 0);
            Due.readings(x, 5, 5 + P, 5 + 64 * P);
            t.is("5 by P", x.tracks(0), 16);
            toldTrack(t, "5 by P", x, 0, 0, 5);
            Due.readings(x, 65535);
            t.is("65535", x.tracks(0), 16);
            toldTrack(t, "65535", x, 0, 0, 65535 % P);
            Due.readings(x, P);
            t.is("P is 0", x.tracks(0), 16);
            toldTrack(t, "P is 0", x, 0, 0, 0);
            t.is("one", tracked(x, 3, 9), 16);
            t.is("eight", tracked(x, 3, 9, 9, 9, 9, 9, 9, 9, 9), 4);
            t.is("the eighth counts", tracked(x, 3, 9, 9, 9, 9, 9, 9, 9, 8), 0);
            t.is("the tape", x.count(8), 0);
        });
        s.says(tracks, "NONE: not as told.", t -> {
            WaveRows x = Due.of(FOUR);
            t.is("no reading", tracked(x, 0), -1);
            t.is("nine", tracked(x, 0, 1, 1, 1, 1, 1, 1, 1, 1, 1), -1);
            t.is("ten", tracked(x, 0, 1, 1, 1, 1, 1, 1, 1, 1, 1, 1), -1);
            t.is("470", tracked(x, 0, new int[470]), -1);
            for (int bytes : new int[] {1, 3, 15, 17, 939}) {
                Due.tape(x, new int[bytes]);
                t.is(bytes + " bytes", x.tracks(0), -1);
                t.is(bytes + " bytes: the tape", x.count(8), 0);
            }
            t.is("HEARER 4", tracked(x, 4, 1), -1);
            t.is("HEARER -1", tracked(x, -1, 1), -1);
            for (int h : FAR) {
                t.is("HEARER " + h, tracked(x, h, 1), -1);
            }
            t.is("no such HEARER: the tape", x.count(8), 0);
            t.is("no HEARERS", tracked(new WaveRows(), 0, 1), -1);
            t.is("no TRACK yet: track(0)", x.track(0), -1);
        });
    }

    private static void track(Sentences s) {
        String track = "Promise 25: track";
        s.says(track, "The first of the latest tracks() that was above 0 (D, then V): 0 D, 1 V, 2 A (the least).", t -> {
            WaveRows x = Due.of(FOUR);
            tracked(x, 2, 5, P - 5);
            toldTrack(t, "the first of 8", x, 0, 1, 5);
            tracked(x, 0, 5, 6);
            toldTrack(t, "after 0", x, 0, 1, 5);
            tracked(x, 0);
            toldTrack(t, "after NONE", x, 0, 1, 5);
            Due.told(x, "");
            toldTrack(t, "in another FIELD", x, 0, 1, 5);
            WaveRows deaf = Due.of(FOUR);
            mended(deaf, 0, 1, 0, 1, 1);
            t.is("no GAIN: any A does", tracked(deaf, 1, 0, 0), 16);
            toldTrack(t, "no GAIN: the least A", deaf, 0, 0, 0);
            t.is("no GAIN, a reading that isn't 0", tracked(deaf, 1, 5), 0);
            t.is("no GAIN, readings that aren't 0", tracked(deaf, 1, 5, 5), 0);
            t.is("no GAIN, the last that isn't 0", tracked(deaf, 1, 0, 0, 1), 0);
        });
        s.says(track, "NONE: another what, or ahead of any.", t -> {
            WaveRows x = Due.of(FOUR);
            for (int what = 0; what < 3; what++) {
                t.is("ahead of any: track(" + what + ")", x.track(what), -1);
            }
            tracked(x, 0, 5, 6);
            t.is("after 0 alone: track(0)", x.track(0), -1);
            tracked(x, 0, 5);
            for (int what : new int[] {-1, 3, 4, Integer.MIN_VALUE, Integer.MAX_VALUE}) {
                t.is("track(" + what + ")", x.track(what), -1);
            }
            t.is("track(2)", x.track(2), 5);
        });
    }

    private static void enough(Sentences s) {
        s.terms("Promise 26: enough", "ENOUGH: the fewest HEARERS (then the least set as bits) by which alone no direction has a TWIN.", t -> {
            t.is("the first two", Due.of(FOUR).enough(), 3);
            t.is("the least set", Due.of("lattice 4;hearer 0;hearer 2;hearer 1;hearer 3;").enough(), 5);
            t.is("the last two alone", Due.of("lattice 4;hearer 0;hearer 4;hearer 8;hearer 3;").enough(), 9);
            t.is("three", Due.of("lattice 30;hearer 0;hearer 30;hearer 8;hearer 3;").enough(), 13);
            t.is("two later ones, rather than three", Due.of("lattice 30;hearer 0;hearer 8;hearer 3;hearer 1;").enough(), 9);
            t.is("a turn of N alone is none", Due.of("lattice 2;hearer 0;hearer 99;").enough(), 3);
            t.is("without a gain", withoutGain().enough(), 3);
        });
        s.says("Promise 26: enough", "ENOUGH, as bits; NONE: all HEARERS are not.", t -> {
            t.is("no HEARERS", new WaveRows().enough(), -1);
            t.is("one", Due.of("lattice 2;hearer 1;").enough(), -1);
            t.is("two", Due.of("lattice 2;hearer 1;hearer 2;").enough(), 3);
            t.is("two, 2 apart of 2", Due.of("lattice 2;hearer 1;hearer 3;").enough(), -1);
            t.is("three, all even", Due.of("lattice 4;hearer 1;hearer 3;hearer 99;").enough(), -1);
            StringBuilder even = new StringBuilder("lattice 60;");
            for (int h = 0; h < 9; h++) {
                even.append("hearer ").append(2 * h).append(";");
            }
            t.is("the tenth and the second", Due.of(even + "hearer 21;").enough(), 1 << 9 | 2);
            t.is("ten, all even", Due.of(even + "hearer 22;").enough(), -1);
        });
    }

    private static WaveRows withoutGain() {
        WaveRows x = Due.of("hearer 3;hearer 4;");
        mended(x, 0, 1, 0);
        return x;
    }

    private static void lose(Sentences s) {
        s.says("Promise 27: lose", "HEARER h is lost: how many are left (numbered anew in order); NONE: no such one.", t -> {
            WaveRows x = Due.of("hearer 5 gain 2;hearer 6 gain 3;hearer 7 gain 4;");
            t.is("lose(3)", x.lose(3), -1);
            t.is("lose(-1)", x.lose(-1), -1);
            for (int h : FAR) {
                t.is("lose(" + h + ")", x.lose(h), -1);
            }
            t.is("none is lost by these", x.count(3), 3);
            t.is("the middle one", x.lose(1), 2);
            int[] due = {5, 2, 7, 4};
            for (int i = 0; i < due.length; i++) {
                t.is("hearer(" + i / 2 + ", " + i % 2 + ")", x.hearer(i / 2, i % 2), due[i]);
            }
            t.noSuch("hearer(2, 0)", () -> x.hearer(2, 0));
            t.is("no such one any more", x.lose(2), -1);
            t.is("the last", x.lose(1), 1);
            t.is("the first", x.lose(0), 0);
            t.is("none is left", x.lose(0), -1);
            t.is("count(3)", x.count(3), 0);
            WaveRows ten = Due.of(hearers(10, 0));
            t.is("of ten: lose(10)", ten.lose(10), -1);
            t.is("of ten: lose(9)", ten.lose(9), 9);
            t.is("of nine: lose(0)", ten.lose(0), 8);
            t.is("of eight: the first", ten.hearer(0, 0), 1);
            t.is("of eight: the last", ten.hearer(7, 0), 8);
        });
    }

    private static void makes(Sentences s) {
        s.terms("Promise 28: fewest", "MAKES: directions (unlike ones, rising) make READINGS given, if with some numbers, one each,"
            + " GAINS times the sum of number times WAVE is each READING.", t -> {
            WaveRows x = Due.of("lattice 4;hearer 0 gain 3;hearer 1 gain 5;hearer 99;");
            t.is("with gains", fewest(x, 3 * 7, 5 * 7 * W[1] % P, 7 * W[3] % P), 1);
            t.is("with gains: made(0)", x.made(0), 1);
            t.is("with gains: madeBy(0)", x.madeBy(0), 7);
            t.is("numbers above 999", fewest(x, 3 * 1008 % P, 5 * 1008 % P, 1008), 1);
            t.is("numbers above 999: madeBy(0)", x.madeBy(0), 1008);
            WaveRows four = Due.of(FOUR);
            t.is("rising, whichever is the louder", fewest(four, 7, 2 + 5 * W[2] % P, 7, 2 + 5 * W[2] % P), 2);
            t.is("rising: made(0)", four.made(0), 0);
            t.is("rising: made(1)", four.made(1), 2);
            mended(four, 0, 1, 1, 0, 1);
            t.is("a GAIN of 0, and a READING that isn't", fewest(four, 1, 1, 1, 1), -1);
            t.is("a GAIN and a READING of 0", fewest(four, 1, 1, 0, 1), 1);
        });
    }

    private static void fewestTerm(Sentences s) {
        s.terms("Promise 28: fewest", "FEWEST: the least k from 0 to 3 for which k directions make them; how many such sets"
            + " (DIRECTIONS by their numbers), the first one (the lesser first, then the next).", t -> {
            WaveRows x = Due.of(FOUR);
            t.is("0", fewest(x, 0, 0, 0, 0), 0);
            t.is("1", fewest(x, 6, 6 * W[3] % P, 6 * W[2] % P, 6 * W[1] % P), 1);
            t.is("1: the last direction", x.made(0), 3);
            t.is("2", fewest(x, 2, 0, 2, 0), 2);
            t.is("3", fewest(x, 7, 1 + 2 * W[1] + 4 * W[3], 1 + 6 * W[2], 1 + 2 * W[3] + 4 * W[1]), 3);
            t.is("4 are too many", fewest(x, 5, 0, 0, 0), -1);
            t.is("all alike, but the first is 0", fewest(x, 0, 5, 5, 5), -1);
            t.is("all alike, but the last is 0", fewest(x, 5, 5, 5, 0), -1);
            t.is("the first is 0", fewest(x, 0, 5 * (W[1] + P - W[3]) % P, 0, 5 * (W[3] + P - W[1]) % P), 2);
            t.is("the first is 0: made(0)", x.made(0), 1);
            t.is("the first is 0: madeBy(1)", x.madeBy(1), P - 5);
            threeFromPlaceOne(t);
            WaveRows twins = Due.of("lattice 4;hearer 0;hearer 2;");
            t.is("twins: one", fewest(twins, 9, P - 9), 1);
            t.is("twins: sets of one", twins.made(-1), 2);
            t.is("twins: the first", twins.made(0), 1);
            t.is("twins: two", fewest(twins, 9, 0), 2);
            t.is("twins: sets of two", twins.made(-1), 4);
            t.is("twins: the first of two", twins.made(0), 0);
            t.is("twins: the next of two", twins.made(1), 1);
            WaveRows sixty = Due.of("lattice 60;hearer 0;hearer 1;hearer 2;");
            t.is("any three of 60", fewest(sixty, 1, 0, 0), 3);
            t.is("any three of 60: sets", sixty.made(-1), 60 * 59 * 58 / 6);
            t.is("any three of 60: made(2)", sixty.made(2), 2);
            WaveRows two = Due.of("lattice 2;hearer 0;hearer 1;hearer 2;");
            t.is("there are no three", fewest(two, 1, 2, 3), -1);
            t.is("all that there are", fewest(two, 1, 2, 1), 2);
        });
    }

    private static void threeFromPlaceOne(Sentences t) {
        WaveRows x = Due.of("lattice 7;" + hearers(5, 1));
        int[] r = new int[5];
        for (int h = 0; h < 5; h++) {
            r[h] = (5 * x.wave(1, 1 + h) + 6 * x.wave(3, 1 + h) + 7 * x.wave(6, 1 + h)) % x.count(1);
        }
        t.is("3 of 7", fewest(x, r), 3);
        int[] due = {1, 5, 3, 6, 6, 7};
        for (int k = 0; k < 3; k++) {
            t.is("3 of 7: made(" + k + ")", x.made(k), due[2 * k]);
            t.is("3 of 7: madeBy(" + k + ")", x.madeBy(k), due[2 * k + 1]);
        }
        t.is("3 of 7: sets", x.made(-1), 1);
        // Directions 3 apart are twins: one of each pair, and never both.
        WaveRows twins = Due.of("lattice 6;hearer 0;hearer 2;hearer 4;");
        for (int h = 0; h < 3; h++) {
            r[h] = (8 + 5 * twins.wave(1, 2 * h) + 3 * twins.wave(2, 2 * h)) % P;
        }
        t.is("3 of 3 pairs of twins", fewest(twins, r[0], r[1], r[2]), 3);
        t.is("3 of 3 pairs of twins: sets", twins.made(-1), 8);
        t.is("3 of 3 pairs of twins: made(2)", twins.made(2), 2);
    }

    private static void fewest(Sentences s) {
        String fewest = "Promise 28: fewest";
        s.says(fewest, "FEWEST for READINGS, the tape's (two bytes each, the higher first; each its rest by P): k;", t -> {
            WaveRows x = Due.of("hearer 0;hearer 12;");
            Due.tape(x, 1, 2, 1, 2);
            t.is("258, 258", x.fewest(), 1);
            t.is("258, 258: madeBy(0)", x.madeBy(0), 258);
            t.is("the tape", x.count(8), 0);
            t.is("each its rest", fewest(x, 65535, 65535 - P), 1);
            t.is("each its rest: madeBy(0)", x.madeBy(0), 65535 % P);
            t.is("P and 0", fewest(x, P, 0), 0);
            t.is("unlike ones by twins", fewest(x, 1, 2), -1);
            t.is("NONE: the tape", x.count(8), 0);
            t.is("no HEARERS", fewest(new WaveRows()), 0);
        });
        s.says(fewest, "NONE: no 3 make them;", t -> {
            WaveRows x = Due.of(FOUR);
            t.is("four are needed", fewest(x, 5, 0, 0, 0), -1);
            t.is("three do", fewest(x, 5, 0, P - 5, 0) >= 0, true);
            t.is("one HEARER, any reading", fewest(Due.of("lattice 2;hearer 9;"), 77), 1);
        });
        s.says(fewest, "-2: not as many as HEARERS.", t -> {
            WaveRows x = Due.of(FOUR);
            for (int many : new int[] {0, 1, 3, 5, 10, 11, 470}) {
                t.is(many + " of 4", fewest(x, new int[many]), -2);
                t.is(many + " of 4: the tape", x.count(8), 0);
            }
            for (int bytes : new int[] {1, 7, 9}) {
                Due.tape(x, new int[bytes]);
                t.is(bytes + " bytes", x.fewest(), -2);
                t.is(bytes + " bytes: the tape", x.count(8), 0);
            }
            t.is("as many", fewest(x, 0, 0, 0, 0), 0);
            WaveRows none = new WaveRows();
            Due.tape(none, 0);
            t.is("no HEARERS, a byte", none.fewest(), -2);
            t.is("no HEARERS, a reading", fewest(none, 0), -2);
            WaveRows ten = Due.of(hearers(10, 0));
            t.is("ten of ten", fewest(ten, new int[10]), 0);
            t.is("nine of ten", fewest(ten, new int[9]), -2);
            t.is("eleven of ten", fewest(ten, new int[11]), -2);
        });
    }

    private static void made(Sentences s) {
        String made = "Promise 29: made";
        s.says(made, "Of the latest fewest() that was 0 or above: how many sets (k NONE),"
            + " or the k-th direction of the first one.", t -> {
            WaveRows x = Due.of(FOUR);
            fewest(x, 1 + W[1], 1 + W[2] + P, 1 + W[3], 2);
            for (int after = 0; after < 4; after++) {
                t.is(after + ": made(-1)", x.made(-1), 1);
                t.is(after + ": made(0)", x.made(0), 0);
                t.is(after + ": made(1)", x.made(1), 1);
                t.is(after + ": made(2)", x.made(2), -1);
                if (after == 0) {
                    t.is("NONE", fewest(x, 5, 0, 0, 0), -1);
                } else if (after == 1) {
                    t.is("-2", fewest(x, 5), -2);
                } else {
                    Due.told(x, "");
                }
            }
            t.is("0", fewest(x), 0);
            t.is("of 0: made(-1)", x.made(-1), 1);
            t.is("of 0: made(0)", x.made(0), -1);
        });
        s.says(made, "NONE: there is none such, or ahead of any.", t -> {
            WaveRows x = Due.of("lattice 4;hearer 0;hearer 2;");
            for (int k = -2; k < 4; k++) {
                t.is("ahead of any: made(" + k + ")", x.made(k), -1);
            }
            fewest(x, 1);
            t.is("after -2 alone: made(-1)", x.made(-1), -1);
            fewest(x, 1, 0);
            t.is("made(-1)", x.made(-1), 4);
            t.is("made(2)", x.made(2), -1);
            t.is("made(3)", x.made(3), -1);
            for (int k : FAR) {
                t.is("made(" + k + ")", x.made(k), -1);
            }
        });
        String madeBy = "Promise 30: madeBy";
        s.says(madeBy, "The number of that direction with which the first set makes them;", t -> {
            WaveRows x = Due.of(FOUR);
            fewest(x, 7, 1 + 2 * W[1] + 4 * W[3], 1 + 6 * W[2], 1 + 2 * W[3] + 4 * W[1]);
            int[] due = {1, 2, 4, -1};
            for (int k = 0; k < due.length; k++) {
                t.is("madeBy(" + k + ")", x.madeBy(k), due[k]);
            }
            fewest(x, 5, 0, 0, 0);
            t.is("after NONE: madeBy(2)", x.madeBy(2), 4);
            fewest(x, 3);
            t.is("after -2: madeBy(2)", x.madeBy(2), 4);
            WaveRows twins = Due.of("lattice 4;hearer 0;hearer 2;");
            fewest(twins, 10, 2);
            t.is("of the first set alone: madeBy(0)", twins.madeBy(0), 6);
            t.is("of the first set alone: madeBy(1)", twins.madeBy(1), 4);
        });
        s.says(madeBy, "NONE: there is none such, or ahead of any.", t -> {
            WaveRows x = Due.of("hearer 1;");
            t.is("ahead of any: madeBy(0)", x.madeBy(0), -1);
            fewest(x);
            t.is("after -2 alone: madeBy(0)", x.madeBy(0), -1);
            fewest(x, 8);
            t.is("madeBy(1)", x.madeBy(1), -1);
            t.is("madeBy(-1)", x.madeBy(-1), -1);
            for (int k : FAR) {
                t.is("madeBy(" + k + ")", x.madeBy(k), -1);
            }
            fewest(x, 0);
            t.is("of 0: madeBy(0)", x.madeBy(0), -1);
        });
    }

    private static void toldLiars(Sentences t, String why, WaveRows x, int sets, int... hearers) {
        t.is(why + ": liar(-1)", x.liar(-1), sets);
        for (int k = 0; k < hearers.length; k++) {
            t.is(why + ": liar(" + k + ")", x.liar(k), hearers[k]);
        }
        t.is(why + ": liar behind", x.liar(hearers.length), -1);
    }

    private static void liarsTerm(Sentences s) {
        s.terms("Promise 31: liars", "LIARS for k (0 to 2) directions: the fewest HEARERS (2 at most) without which k directions at most"
            + " make the READINGS of the others; how many such sets; the first (the lesser first).", t -> {
            WaveRows x = Due.of(FOUR);
            t.is("0 directions, no liar", lying(x, 0, 0, 0, 0, 0), 0);
            toldLiars(t, "0 directions, no liar", x, 1);
            t.is("0 directions, one", lying(x, 0, 0, 0, 8, 0), 1);
            toldLiars(t, "0 directions, one", x, 1, 2);
            t.is("0 directions, two", lying(x, 0, 9, 0, 0, 8), 2);
            toldLiars(t, "0 directions, two", x, 1, 0, 3);
            t.is("0 directions, three are too many", lying(x, 0, 0, 5, 8, 1), -1);
            t.is("1 direction at most: 0 do", lying(x, 1, 0, 0, 0, 0), 0);
            t.is("1 direction, one", lying(x, 1, 4, 4, 4, 5), 1);
            toldLiars(t, "1 direction, one", x, 1, 3);
            t.is("1 direction, the first", lying(x, 1, 0, 4, 4, 4), 1);
            toldLiars(t, "1 direction, the first", x, 1, 0);
            t.is("1 direction, two", lying(x, 1, 4, 4, 5, 5), 2);
            toldLiars(t, "1 direction, two", x, 2, 0, 1);
            t.is("2 directions at most: 1 does", lying(x, 2, 4, 4, 4, 4), 0);
            t.is("2 directions", lying(x, 2, 4, 0, 4, 0), 0);
            t.is("2 directions, one", lying(x, 2, 7, 2 + 5 * W[2] % P, 7, 99), 1);
            WaveRows far = Due.of("lattice 60;" + hearers(10, 90));
            int[] r = new int[10];
            for (int h = 0; h < 10; h++) {
                r[h] = (3 * far.wave(59, 90 + h) + 4 * far.wave(58, 90 + h)) % far.count(1);
            }
            t.is("ten, no liar", lying(far, 2, r), 0);
            r[9]++;
            t.is("ten, the last", lying(far, 2, r), 1);
            toldLiars(t, "ten, the last", far, 1, 9);
            r[8]++;
            t.is("ten, the last two", lying(far, 2, r), 2);
            toldLiars(t, "ten, the last two", far, 1, 8, 9);
            r[0]++;
            t.is("ten, three", lying(far, 2, r), -1);
        });
    }

    private static void liars(Sentences s) {
        String liars = "Promise 31: liars";
        s.says(liars, "LIARS for k directions and READINGS, the tape's: how many HEARERS;", t -> {
            WaveRows x = Due.of(FOUR);
            Due.tape(x, 1, 0, 1, 0, 1, 0, 0, 0);
            t.is("256, 256, 256, 0", x.liars(1), 1);
            t.is("the tape", x.count(8), 0);
            t.is("each its rest by P", lying(x, 1, 5, 5 + P, 5, 5 + 64 * P), 0);
            t.is("no HEARERS", lying(new WaveRows(), 0), 0);
            t.is("one HEARER", lying(Due.of("hearer 1;"), 0, 7), 1);
            t.is("two HEARERS, both", lying(Due.of("hearer 1;hearer 2;"), 0, 7, 8), 2);
        });
        s.says(liars, "NONE: no 2;", t -> {
            t.is("three of three", lying(Due.of("hearer 1;hearer 2;hearer 3;"), 0, 7, 8, 9), -1);
            WaveRows x = Due.of("hearer 1;hearer 2;hearer 3;");
            t.is("two of three", lying(x, 0, 7, 0, 9), 2);
            toldLiars(t, "two of three", x, 1, 0, 2);
            t.is("three of three", lying(x, 0, 7, 8, 9), -1);
            t.is("NONE: the tape", x.count(8), 0);
        });
        s.says(liars, "-2: not as told.", t -> {
            WaveRows x = Due.of(FOUR);
            for (int k : new int[] {-1, 3, 4, Integer.MIN_VALUE, Integer.MAX_VALUE}) {
                t.is("k " + k, lying(x, k, 0, 0, 0, 0), -2);
                t.is("k " + k + ": the tape", x.count(8), 0);
            }
            for (int many : new int[] {0, 3, 5, 10, 11, 470}) {
                t.is(many + " of 4", lying(x, 0, new int[many]), -2);
                t.is(many + " of 4: the tape", x.count(8), 0);
            }
            for (int bytes : new int[] {1, 7, 9}) {
                Due.tape(x, new int[bytes]);
                t.is(bytes + " bytes", x.liars(0), -2);
            }
            t.is("k 0", lying(x, 0, 0, 0, 0, 0), 0);
            t.is("k 2", lying(x, 2, 0, 0, 0, 0), 0);
        });
    }

    private static void liar(Sentences s) {
        String liar = "Promise 32: liar";
        s.says(liar, "Of the latest liars() that was 0 or above: how many sets (k NONE), or the k-th HEARER of the first one.", t -> {
            WaveRows x = Due.of(FOUR);
            lying(x, 1, 4, 4, 5, 5);
            toldLiars(t, "two", x, 2, 0, 1);
            t.is("NONE", lying(x, 0, 1, 2, 3, 4), -1);
            toldLiars(t, "after NONE", x, 2, 0, 1);
            t.is("-2", lying(x, 3, 1, 2, 3, 4), -2);
            toldLiars(t, "after -2", x, 2, 0, 1);
            Due.told(x, "hearer 5;");
            x.fewest();
            toldLiars(t, "in another FIELD", x, 2, 0, 1);
            lying(x, 0, 5);
            toldLiars(t, "a later one", x, 1, 0);
            lying(x, 0, 0);
            toldLiars(t, "none lies", x, 1);
        });
        s.says(liar, "NONE: there is none such, or ahead of any.", t -> {
            WaveRows x = Due.of(FOUR);
            for (int k = -2; k < 3; k++) {
                t.is("ahead of any: liar(" + k + ")", x.liar(k), -1);
            }
            lying(x, 0, 1, 2, 3, 4);
            t.is("after NONE alone: liar(-1)", x.liar(-1), -1);
            lying(x, 0, 0, 1, 0, 1);
            t.is("liar(1)", x.liar(1), 3);
            t.is("liar(2)", x.liar(2), -1);
            for (int k : FAR) {
                t.is("liar(" + k + ")", x.liar(k), -1);
            }
        });
    }

    private static void numbers(Sentences t, String why, WaveRows x, int... due) {
        for (int h = 0; h < due.length; h++) {
            t.is(why + ": number(" + h + ")", x.number(h), due[h]);
        }
        t.is(why + ": number behind", x.number(due.length), -1);
    }

    private static void nulledTerm(Sentences s) {
        s.terms("Promise 33: nulled", "NULLED: numbers, one for each HEARER, such that, each times GAIN times WAVE of d, added, they come to"
            + " 1 for one direction and to 0 for others (0 to 6 told, unlike);", t -> {
            WaveRows x = Due.of("lattice 4;hearer 0 gain 2;hearer 1;hearer 2;");
            t.is("no others", nulled(x, 3), true);
            numbers(t, "no others", x, 505, 0, 0);
            // 2a + b + c = 0 and 2a - b + c = 0, so b is 0; 2a - c = 1.
            t.is("two others", nulled(x, 1, 0, 2), true);
            numbers(t, "two others", x, 757, 0, P - 505);
            WaveRows eight = Due.of("lattice 8;" + hearers(8, 0));
            t.is("six others", nulled(eight, 7, 0, 1, 2, 3, 4, 5), true);
            int[] due = {0, 0, 0, 0, 0, 0, -1, 1};
            for (int d = 0; d < due.length; d++) {
                t.is("six others: comes(" + d + ")", d == 6 ? -1 : eight.comes(d), due[d]);
            }
            t.is("seven others", nulled(eight, 0, 1, 2, 3, 4, 5, 6, 7), false);
            t.is("two alike of the others", nulled(eight, 0, 1, 2, 1), false);
            t.is("one as the first", nulled(eight, 1, 0, 1), false);
        });
        s.terms("Promise 34: number", "of all such, from the first HEARER on, each one is 0 the column of which is made of those of lesser ones.", t -> {
            WaveRows x = Due.of("lattice 4;hearer 2;hearer 0;hearer 1;");
            t.is("by 0 and 2 alone", nulled(x, 0, 2), true);
            numbers(t, "by 0 and 2 alone", x, 505, 0, 505);
            WaveRows ten = Due.of("lattice 60;" + hearers(10, 0));
            t.is("one direction", nulled(ten, 0), true);
            numbers(t, "one direction", ten, 1, 0, 0, 0, 0, 0, 0, 0, 0, 0);
            // Of earlier numbers nothing is left: the first HEARER has no gain now.
            Due.told(x, "lattice 4;hearer 5;hearer 0;hearer 1;hearer 2;");
            mended(x, 0, 1, 0, 1, 1);
            x.lose(0);
            t.is("after others", nulled(x, 1, 3), true);
            numbers(t, "after others", x, 0, W[3] * 505 % P, P - 505);
            // A column of 0, for it has no gain, is made of none.
            WaveRows deaf = Due.of("lattice 4;hearer 5;hearer 0;");
            mended(deaf, 0, 1, 0);
            deaf.lose(0);
            t.is("without gain", nulled(deaf, 1), false);
            Due.told(deaf, "lattice 4;hearer 5;hearer 0;hearer 1;hearer 2;");
            mended(deaf, 0, 1, 0, 1, 1);
            deaf.lose(0);
            t.is("the first without gain", nulled(deaf, 1, 3), true);
            t.is("the first without gain: number(0)", deaf.number(0), 0);
            t.is("the first without gain: comes(1)", deaf.comes(1), 1);
            t.is("the first without gain: comes(3)", deaf.comes(3), 0);
        });
    }

    private static void nulled(Sentences s) {
        s.says("Promise 33: nulled", "NULLED, the tape's bytes being the direction that comes to 1, and the others: true;", t -> {
            WaveRows x = Due.of("lattice 60;hearer 0;hearer 1;");
            t.is("59, then 0", nulled(x, 59, 0), true);
            t.is("the tape", x.count(8), 0);
            t.is("comes(59)", x.comes(59), 1);
            t.is("comes(0)", x.comes(0), 0);
            t.is("0, then 59", nulled(x, 0, 59), true);
            t.is("the other way: comes(59)", x.comes(59), 0);
            t.is("the other way: comes(0)", x.comes(0), 1);
        });
        s.says("Promise 33: nulled", "false: not as told, or there are no such numbers.", t -> {
            WaveRows x = Due.of("lattice 4;hearer 0;hearer 1;hearer 2;");
            t.is("true", nulled(x, 0), true);
            t.is("no byte", nulled(x), false);
            t.is("no such direction", nulled(x, 4), false);
            t.is("no such one behind", nulled(x, 0, 4), false);
            t.is("255", nulled(x, 255), false);
            t.is("64, of which a bit by 64 would be 0's", nulled(x, 1, 64), false);
            t.is("twice one", nulled(x, 0, 2, 2), false);
            t.is("the first again", nulled(x, 0, 0), false);
            t.is("more than 7", nulled(x, 0, 1, 2, 3, 0, 1, 2, 3), false);
            t.is("940", nulled(x, new int[940]), false);
            t.is("four of three HEARERS", nulled(x, 0, 1, 2, 3), false);
            t.is("the tape", x.count(8), 0);
            numbers(t, "they stay", x, 1, 0, 0);
            t.is("twins", nulled(Due.of("lattice 4;hearer 0;hearer 2;"), 0, 2), false);
            t.is("twins, but one told", nulled(Due.of("lattice 4;hearer 0;hearer 2;"), 0), true);
            t.is("no HEARERS", nulled(new WaveRows(), 0), false);
            WaveRows nine = Due.of("lattice 9;" + hearers(10, 0));
            t.is("seven", nulled(nine, 0, 1, 2, 3, 4, 5, 6), true);
            t.is("eight", nulled(nine, 0, 1, 2, 3, 4, 5, 6, 7), false);
        });
    }

    private static void number(Sentences s) {
        s.says("Promise 34: number", "The number of HEARER h by the latest nulled() that was true;"
            + " NONE: no such one of then, or ahead of any.", t -> {
            WaveRows x = Due.of("lattice 4;hearer 0;hearer 1;");
            t.is("ahead of any: number(0)", x.number(0), -1);
            nulled(x, 0, 0);
            t.is("after false alone: number(0)", x.number(0), -1);
            nulled(x, 1, 3);
            // a + 469 b = 1 and a = 469 b.
            int[] due = {505, 505 * W[3] % P};
            numbers(t, "two", x, due);
            for (int h : FAR) {
                t.is("number(" + h + ")", x.number(h), -1);
            }
            t.is("number(-1)", x.number(-1), -1);
            nulled(x, 5);
            numbers(t, "after false", x, due);
            x.lose(0);
            numbers(t, "with one lost: of then", x, due);
            Due.told(x, "");
            numbers(t, "no HEARERS: of then", x, due);
            Due.told(x, hearers(10, 0));
            numbers(t, "ten HEARERS: of then", x, due);
            nulled(x, 0);
            numbers(t, "of the ten", x, 1, 0, 0, 0, 0, 0, 0, 0, 0, 0);
        });
    }

    private static void comes(Sentences s) {
        String comes = "Promise 35: comes";
        s.says(comes, "What comes to these of direction d (HEARERS of now, as many as then);", t -> {
            WaveRows x = Due.of("lattice 4;hearer 0;hearer 1;");
            nulled(x, 1, 3);
            int a = x.number(0);
            int b = x.number(1);
            for (int d = 0; d < 4; d++) {
                t.is("comes(" + d + ")", x.comes(d), (a + b * W[d]) % P);
            }
            Due.told(x, "lattice 5;hearer 1 gain 3;hearer 2;");
            t.is("HEARERS of now", x.comes(2), (a * 3L * x.wave(2, 1) + b * (long) x.wave(2, 2)) % 1021);
            t.is("directions of now", x.comes(4), (a * 3L * x.wave(4, 1) + b * (long) x.wave(4, 2)) % 1021);
            mended(x, 0, 1, 0);
            t.is("gains of now", x.comes(0), 3 * a % 1021);
            WaveRows ten = Due.of("lattice 2;" + hearers(10, 0));
            nulled(ten, 1, 0);
            t.is("ten: comes(0)", ten.comes(0), 0);
            t.is("ten: comes(1)", ten.comes(1), 1);
            Due.told(ten, "lattice 2;" + hearers(9, 0));
            nulled(ten, 1);
            t.is("nine, after ten: comes(0)", ten.comes(0), 1);
        });
        s.says(comes, "NONE: no such direction, another many, or ahead of any.", t -> {
            WaveRows x = Due.of("lattice 4;hearer 0;hearer 1;");
            t.is("ahead of any: comes(0)", x.comes(0), -1);
            t.is("no HEARERS, ahead of any: comes(0)", new WaveRows().comes(0), -1);
            nulled(x, 1, 3);
            t.is("comes(3)", x.comes(3), 0);
            t.is("comes(4)", x.comes(4), -1);
            t.is("comes(-1)", x.comes(-1), -1);
            for (int d : FAR) {
                t.is("comes(" + d + ")", x.comes(d), -1);
            }
            x.image(0);
            x.lose(1);
            t.is("one less: comes(0)", x.comes(0), -1);
            x.lose(0);
            t.is("none: comes(0)", x.comes(0), -1);
            Due.told(x, "lattice 4;hearer 0;hearer 1;hearer 2;");
            t.is("one more: comes(0)", x.comes(0), -1);
            x.restore(0);
            t.is("as many again: comes(1)", x.comes(1), 1);
        });
    }

    private static void gains(Sentences t, String why, WaveRows x, int... gains) {
        for (int h = 0; h < gains.length; h++) {
            t.is(why + ": hearer(" + h + ", 1)", x.hearer(h, 1), gains[h]);
        }
    }

    private static void hidden(Sentences s) {
        s.terms("Promise 36: mend", "HIDDEN gains: of READINGS given by one SENDER alone in a direction d: each through WAVE, by that of"
            + " the first HEARER; times the GAIN of the first.", t -> {
            WaveRows x = Due.of("lattice 4;hearer 1 gain 6;hearer 2 gain 9;hearer 4;");
            t.is("mend(1)", mended(x, 1, 30 * W[1] % P, 70 * W[2] % P, 5), true);
            gains(t, "the first's stays, by it the others", x, 6, 14, 1);
            t.is("mend(0)", mended(x, 0, 1, 1008, 2), true);
            gains(t, "above 999", x, 6, P - 6, 12);
            WaveRows far = Due.of("lattice 60;hearer 99 gain 999;hearer 0;");
            int p = far.count(1);
            t.is("mend(59)", mended(far, 59, 2 * 999 * far.wave(59, 99) % p, 2 * 7), true);
            gains(t, "from place 99", far, 999, 7);
            x.lose(2);
            x.lose(0);
            t.is("of the first of now", mended(x, 3, 400), true);
            gains(t, "of the first of now", x, P - 6);
        });
    }

    private static void mend(Sentences s) {
        String mend = "Promise 36: mend";
        s.says(mend, "HIDDEN gains, the tape's READINGS by a SENDER in direction d: GAINS are these now (0: 0): true;", t -> {
            WaveRows x = Due.of("hearer 0 gain 2;hearer 1;hearer 2;");
            t.is("mend(0)", mended(x, 0, 258, 0, P), true);
            gains(t, "0 is 0", x, 2, 0, 0);
            t.is("the tape", x.count(8), 0);
            t.is("its cover", x.cover(1, 1), 0);
            t.is("mend(0), back", mended(x, 0, 65535, 65535 % P, 65535 - P), true);
            gains(t, "each its rest by P", x, 2, 2, 2);
            // The first without gain: so are all, by it.
            mended(x, 0, 1, 0, 1);
            x.lose(0);
            t.is("the first without gain", mended(x, 5, 3, 4), true);
            gains(t, "the first without gain", x, 0, 0);
        });
        s.says(mend, "false: not as told, no HEARERS, or the first READING is 0.", t -> {
            WaveRows x = Due.of("lattice 4;hearer 1 gain 6;hearer 2 gain 9;");
            for (int many : new int[] {0, 1, 3, 10, 11, 470}) {
                int[] ones = new int[many];
                java.util.Arrays.fill(ones, 1);
                t.is(many + " of 2", mended(x, 0, ones), false);
                t.is(many + " of 2: the tape", x.count(8), 0);
            }
            for (int bytes : new int[] {1, 3, 5}) {
                Due.tape(x, 1, 1, 1, 1, 1);
                x.end(bytes);
                t.is(bytes + " bytes", x.mend(0), false);
                t.is(bytes + " bytes: the tape", x.count(8), 0);
            }
            for (int d : new int[] {4, -1, 60, Integer.MIN_VALUE, Integer.MAX_VALUE}) {
                t.is("mend(" + d + ")", mended(x, d, 1, 1), false);
                t.is("mend(" + d + "): the tape", x.count(8), 0);
            }
            t.is("the first is 0", mended(x, 0, 0, 1), false);
            t.is("the first is P", mended(x, 0, P, 1), false);
            gains(t, "they stay", x, 6, 9);
            t.is("mend(3)", mended(x, 3, 1, 1), true);
            t.is("no HEARERS", mended(new WaveRows(), 0), false);
            t.is("no HEARERS, a READING", mended(new WaveRows(), 0, 1), false);
        });
    }
}

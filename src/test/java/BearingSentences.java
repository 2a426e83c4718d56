/** The sentences of BEARINGS, where they CROSS, and the FIX: promises 37 to 40, and their terms. */
final class BearingSentences {
    private static final int[] FAR = {Integer.MIN_VALUE, -2, -1, 8, 32, 64, Integer.MAX_VALUE};
    private static final String TWO = "station a 0 0;station b 10 0;";

    private BearingSentences() {
    }

    static void all(Sentences s) {
        going(s);
        crossing(s);
        cross(s);
        through(s);
        fixTerm(s);
        fix(s);
        fixAt(s);
    }

    private static void crossed(Sentences t, WaveRows x, int a, int b, long... due) {
        for (int what = 0; what < 4; what++) {
            t.is("cross(" + a + ", " + b + ", " + what + ")", x.cross(a, b, what), due[what]);
            t.is("cross(" + b + ", " + a + ", " + what + ")", x.cross(b, a, what), due[what]);
        }
    }

    private static void apart(Sentences t, String why, String text) {
        WaveRows x = Due.of(text);
        for (int what = 0; what < 4; what++) {
            int it = what;
            t.noSuch(why + ": cross(0, 1, " + it + ")", () -> x.cross(0, 1, it));
        }
        t.is(why + ": through(0, 1)", x.through(0, 1), -1);
        t.is(why + ": through(1, 0)", x.through(1, 0), -1);
        t.is(why + ": fix()", x.fix(), -1);
    }

    private static void going(Sentences s) {
        s.terms("Promise 37: cross", "BEARINGS go from their STATION on, in steps of DX, DY times any number above 0.", t -> {
            WaveRows x = Due.of(TWO + "bearing a 10 10;bearing b -1 1;bearing a 99 0;bearing b 0 1;");
            crossed(t, x, 0, 1, 5, 1, 5, 1);
            crossed(t, x, 0, 3, 10, 1, 10, 1);
            apart(t, "behind the first", TWO + "bearing a -1 -1;bearing b -1 1;");
            apart(t, "behind the second", TWO + "bearing a 1 1;bearing b 1 -1;");
            apart(t, "behind both", TWO + "bearing a -1 -1;bearing b 1 -1;");
            apart(t, "at 0 times the second", TWO + "bearing a 1 0;bearing b 1 1;");
            apart(t, "at 0 times the first", TWO + "bearing a 1 1;bearing b -1 0;");
            // The farthest there is: nearly one beside the other.
            WaveRows far = Due.of("station a -99 -99;station b -99 99;bearing a 99 98;bearing b 98 97;");
            // 99 u = 98 v and 98 u = 97 v + 198: u is 198 times 98.
            t.is("nearly parallel: through(0, 1)", far.through(0, 1), 3);
            crossed(t, far, 0, 1, 99L * 198 * 98 - 99, 1, 98L * 198 * 98 - 99, 1);
        });
    }

    private static void crossing(Sentences s) {
        s.terms("Promise 37: cross", "Two of unlike STATIONS CROSS, if they have just one point together"
            + " (exact; their STATIONS are none of it).", t -> {
            apart(t, "of one STATION", "station a 3 3;bearing a 1 0;bearing a 1 1;");
            apart(t, "parallel", TWO + "bearing a 1 1;bearing b 2 2;");
            apart(t, "against each other", TWO + "bearing a 1 1;bearing b -1 -1;");
            apart(t, "face to face on a line", TWO + "bearing a 1 0;bearing b -1 0;");
            apart(t, "one behind the other on a line", TWO + "bearing a 1 0;bearing b 1 0;");
            apart(t, "back to back on a line", TWO + "bearing a -1 0;bearing b 1 0;");
            apart(t, "STATIONS in one place", "station a 3 3;station b 3 3;bearing a 1 0;bearing b 1 1;");
            apart(t, "STATIONS in one place, one line", "station a 3 3;station b 3 3;bearing a 1 0;bearing b 2 0;");
            apart(t, "through the STATION of the second", TWO + "bearing a 1 0;bearing b 0 1;");
            apart(t, "through the STATION of the first", TWO + "bearing a 0 1;bearing b -1 0;");
            t.is("just off it", Due.of("station a 0 0;station b 10 1;bearing a 1 0;bearing b 0 -1;").through(0, 1), 3);
            WaveRows x = Due.of("station a 0 0;station b 1 99;bearing a 99 1;bearing b 98 -98;");
            // 99 u - 98 v = 1 and u + 98 v = 99: u is 1.
            t.is("exact: through(0, 1)", x.through(0, 1), 3);
            crossed(t, x, 0, 1, 99, 1, 1, 1);
        });
    }

    private static void cross(Sentences s) {
        String cross = "Promise 37: cross";
        s.says(cross, "BEARINGS a, b: 0 X above, 1 X below, 2 Y above, 3 Y below of the point where they CROSS,"
            + " in least numbers, below above 0.", t -> {
            WaveRows x = Due.of(TWO + "station c -4 4;station d 0 -5;bearing a 1 1;bearing b -3 1;bearing a 2 -3;"
                + "bearing b 0 -7;bearing d 0 3;bearing c 2 -2;");
            crossed(t, x, 0, 1, 5, 2, 5, 2);
            crossed(t, x, 2, 3, 10, 1, -15, 1);
            // 0 in least numbers is 0 by 1.
            crossed(t, x, 4, 5, 0, 1, 0, 1);
            // One half and a whole, in whatever order.
            crossed(t, Due.of(TWO + "bearing a 1 2;bearing b -3 2;"), 0, 1, 5, 2, 5, 1);
            crossed(t, Due.of("station a 0 0;station b 0 10;bearing a 2 1;bearing b 2 -3;"), 0, 1, 5, 1, 5, 2);
            crossed(t, Due.of("station a 0 0;station b 1 0;bearing a 1 1;bearing b 0 1;"), 0, 1, 1, 1, 1, 1);
            WaveRows unlike = Due.of("station a -1 0;station b 2 -1;bearing a 1 2;bearing b -2 3;");
            // -1 + u = 2 - 2v and 2u = -1 + 3v: u is 1, v is 1.
            crossed(t, unlike, 0, 1, 0, 1, 2, 1);
            WaveRows below = Due.of("station a -9 -9;station b -9 0;bearing a 3 1;bearing b 1 -3;");
            // 3u = v and u - 9 = -3v: u is 9/10.
            crossed(t, below, 0, 1, -63, 10, -81, 10);
            WaveRows most = Due.of("station a -99 -99;station b 99 -98;bearing a 97 99;bearing b -99 98;");
            long[] due = most(-99, -99, 99, -98, 97, 99, -99, 98);
            crossed(t, most, 0, 1, due);
        });
        s.says(cross, "NoSuchElementException: they don't, no such ones.", t -> {
            WaveRows x = Due.of(TWO + "bearing a 1 1;bearing b -1 1;bearing b 1 1;");
            t.is("cross(0, 1, 3)", x.cross(0, 1, 3), 1);
            t.noSuch("they don't: cross(0, 2, 0)", () -> x.cross(0, 2, 0));
            t.noSuch("of one STATION: cross(1, 2, 0)", () -> x.cross(1, 2, 0));
            t.noSuch("with itself: cross(0, 0, 0)", () -> x.cross(0, 0, 0));
            t.noSuch("cross(0, 3, 0)", () -> x.cross(0, 3, 0));
            t.noSuch("cross(3, 0, 0)", () -> x.cross(3, 0, 0));
            for (int far : FAR) {
                t.noSuch("cross(0, " + far + ", 0)", () -> x.cross(0, far, 0));
                t.noSuch("cross(" + far + ", 1, 0)", () -> x.cross(far, 1, 0));
                t.noSuch("cross(0, 1, " + far + ")", () -> x.cross(0, 1, far));
            }
            t.noSuch("cross(0, 1, 4)", () -> x.cross(0, 1, 4));
            t.noSuch("no BEARINGS: cross(0, 1, 0)", () -> new WaveRows().cross(0, 1, 0));
        });
    }

    /** The crossing of two lines by their places and steps, in least numbers. */
    private static long[] most(long xa, long ya, long xb, long yb, long dxa, long dya, long dxb, long dyb) {
        long turn = dxa * dyb - dya * dxb;
        long along = (xb - xa) * dyb - (yb - ya) * dxb;
        long x = xa * turn + along * dxa;
        long y = ya * turn + along * dya;
        long byX = least(x, turn);
        long byY = least(y, turn);
        return new long[] {x / byX, turn / byX, y / byY, turn / byY};
    }

    private static long least(long above, long below) {
        long common = java.math.BigInteger.valueOf(above).gcd(java.math.BigInteger.valueOf(below)).longValue();
        return below < 0 ? -common : common;
    }

    private static void through(Sentences s) {
        String through = "Promise 40: through";
        s.says(through, "BEARINGS that go through the point where a, b CROSS, as bits;", t -> {
            WaveRows x = Due.of("station a 0 0;station b 4 0;station c 0 4;station d 2 2;bearing a 1 1;bearing b -1 1;"
                + "bearing c 3 -3;bearing d 1 1;bearing a 7 7;bearing c 1 0;bearing a -1 -1;bearing b 0 1;");
            // (2, 2): a by 0 and 4, b, c; not d, whose STATION it is, nor a the other way.
            t.is("through(0, 1)", x.through(0, 1), 1 + 2 + 4 + 16);
            t.is("through(1, 0)", x.through(1, 0), 1 + 2 + 4 + 16);
            t.is("through(2, 4)", x.through(2, 4), 1 + 2 + 4 + 16);
            // (4, 4): a, d, c by 5, b by 7.
            t.is("through(5, 3)", x.through(5, 3), 1 + 8 + 16 + 32 + 128);
            t.is("through(7, 0)", x.through(7, 0), 1 + 8 + 16 + 32 + 128);
            // Just beside the point, and not where it is in whole numbers.
            WaveRows y = Due.of(TWO + "station c 5 -2;bearing a 1 1;bearing b -3 1;bearing c -1 2;bearing c -5 9;"
                + "bearing c -5 8;");
            // (5/2, 5/2): from (5, -2) by (-5/2, 9/2).
            t.is("at 5/2: through(0, 1)", y.through(0, 1), 1 + 2 + 8);
        });
        s.says(through, "NONE: they don't, no such ones.", t -> {
            WaveRows x = Due.of(TWO + "bearing a 1 1;bearing b -1 1;bearing b 1 1;");
            t.is("through(0, 1)", x.through(0, 1), 3);
            t.is("they don't: through(0, 2)", x.through(0, 2), -1);
            t.is("of one STATION: through(1, 2)", x.through(1, 2), -1);
            t.is("with itself: through(0, 0)", x.through(0, 0), -1);
            t.is("through(0, 3)", x.through(0, 3), -1);
            t.is("through(3, 0)", x.through(3, 0), -1);
            for (int far : FAR) {
                t.is("through(0, " + far + ")", x.through(0, far), -1);
                t.is("through(" + far + ", 1)", x.through(far, 1), -1);
            }
            t.is("no BEARINGS: through(0, 1)", new WaveRows().through(0, 1), -1);
            WaveRows eight = Due.of(TWO + "bearing a 1 1;bearing b -1 1;bearing b -2 1;bearing b -3 1;bearing b -4 1;"
                + "bearing b -5 1;bearing b -6 1;bearing b -7 1;");
            t.is("eight: through(0, 7)", eight.through(0, 7), 129);
            t.is("eight: through(0, 8)", eight.through(0, 8), -1);
            t.is("eight: through(8, 0)", eight.through(8, 0), -1);
            t.noSuch("eight: cross(0, 8, 0)", () -> eight.cross(0, 8, 0));
        });
    }

    private static void fixed(Sentences t, String why, String text, int... due) {
        WaveRows x = Due.of(text);
        t.is(why + ": fix()", x.fix(), due.length);
        for (int i = 0; i < due.length; i++) {
            t.is(why + ": fixAt(" + i + ")", x.fixAt(i), due[i]);
        }
        t.is(why + ": fixAt behind", x.fixAt(due.length), -1);
    }

    private static void fixTerm(Sentences s) {
        s.terms("Promise 38: fix", "FIX: the fewest points where BEARINGS CROSS such that each BEARING goes through one of them;", t -> {
            fixed(t, "no BEARINGS", TWO);
            fixed(t, "two", TWO + "bearing a 1 1;bearing b -1 1;", 1);
            fixed(t, "eight through one point", "station a 0 0;station b 10 0;station c 5 0;bearing a 1 1;bearing a 2 2;"
                + "bearing b -1 1;bearing b -2 2;bearing c 0 1;bearing c 0 2;bearing a 3 3;bearing b -4 4;", 2);
            // One goes along the ground, and seven come down on it.
            fixed(t, "a comb", "station z 0 0;station a 1 9;bearing a 0 -1;bearing a 1 -1;bearing a 2 -1;bearing a 3 -1;"
                + "bearing a 4 -1;bearing a 5 -1;bearing a 6 -1;bearing z 1 0;", 7, 17, 27, 37, 47, 57, 67);
            // 3 goes through (5, 5) too, where 0 and 1 CROSS.
            fixed(t, "three by one point, and one more", TWO + "station c 5 0;bearing a 1 1;bearing b -1 1;"
                + "bearing a 2 1;bearing c 0 1;", 1, 12);
        });
        s.terms("Promise 39: fixAt", "of like ones the first (a point by the first BEARING, then the second, of the first pair that CROSSES"
            + " there; rows of such points, rising).", t -> {
            fixed(t, "{02, 13} or {03, 12}", TWO + "bearing a 1 1;bearing a 2 1;bearing b -1 1;bearing b -2 1;", 2, 13);
            fixed(t, "{01, 23} or {03, 12}", TWO + "bearing a 1 1;bearing b -1 1;bearing a 2 1;bearing b -2 1;", 1, 23);
            fixed(t, "{01, 12}", TWO + "bearing a 1 1;bearing b -1 1;bearing a 2 1;", 1, 12);
            fixed(t, "{01, 02} ahead of {01, 12}", TWO + "station c 5 0;bearing a 1 1;bearing b -1 1;bearing c -1 9;", 1, 2);
            fixed(t, "24 points", "station a 0 0;station b 10 0;station c 20 0;station d 30 0;bearing a 9 1;bearing a 7 1;"
                + "bearing b 3 2;bearing b 1 1;bearing c -1 2;bearing c -1 1;bearing d -4 1;bearing d -9 1;", 2, 13, 46, 57);
        });
    }

    private static void fix(Sentences s) {
        s.says("Promise 38: fix", "FIX: how many points; NONE: a BEARING that CROSSES none.", t -> {
            t.is("no BEARINGS", new WaveRows().fix(), 0);
            t.is("no BEARINGS, a STATION", Due.of("station a 0 0;").fix(), 0);
            t.is("one BEARING", Due.of("station a 0 0;bearing a 1 1;").fix(), -1);
            t.is("two that CROSS", Due.of(TWO + "bearing a 1 1;bearing b -1 1;").fix(), 1);
            t.is("the last CROSSES none", Due.of(TWO + "bearing a 1 1;bearing b -1 1;bearing b 1 1;").fix(), -1);
            t.is("the first CROSSES none", Due.of(TWO + "bearing b 1 1;bearing a 1 1;bearing b -1 1;").fix(), -1);
            t.is("the last of eight CROSSES none", Due.of(TWO + "bearing a 1 1;bearing a 2 1;bearing a 3 1;bearing b -1 1;"
                + "bearing b -2 1;bearing b -3 1;bearing b 0 1;bearing b 1 -1;").fix(), -1);
            t.is("eight, and all CROSS", Due.of(TWO + "bearing a 1 1;bearing a 2 1;bearing a 3 1;bearing b -1 1;"
                + "bearing b -2 1;bearing b -3 1;bearing b 0 1;bearing a 1 2;").fix(), 4);
        });
    }

    private static void fixAt(Sentences s) {
        String fixAt = "Promise 39: fixAt";
        s.says(fixAt, "The i-th point of the latest fix() that was 0 or above, as 10 times the first BEARING and the second;", t -> {
            WaveRows x = Due.of(TWO + "bearing a 1 1;bearing a 2 1;bearing b -1 1;bearing b -2 1;");
            x.fix();
            t.is("fixAt(0)", x.fixAt(0), 2);
            t.is("fixAt(1)", x.fixAt(1), 13);
            Due.told(x, "station a 0 0;bearing a 1 1;");
            t.is("NONE now", x.fix(), -1);
            t.is("after NONE: fixAt(0)", x.fixAt(0), 2);
            t.is("after NONE: fixAt(1)", x.fixAt(1), 13);
            Due.told(x, "");
            t.is("another FIELD: fixAt(1)", x.fixAt(1), 13);
            t.is("no BEARINGS", x.fix(), 0);
            t.is("of no points: fixAt(0)", x.fixAt(0), -1);
            WaveRows last = Due.of(TWO + "bearing a 1 1;bearing a 2 1;bearing a 3 1;bearing a 4 1;bearing a 5 1;"
                + "bearing a 6 1;bearing a 7 1;bearing b -1 1;");
            t.is("seven by one", last.fix(), 7);
            t.is("seven by one: fixAt(6)", last.fixAt(6), 67);
        });
        s.says(fixAt, "NONE: there is none such, or ahead of any.", t -> {
            WaveRows x = Due.of("station a 0 0;bearing a 1 1;");
            t.is("ahead of any: fixAt(0)", x.fixAt(0), -1);
            x.fix();
            t.is("after NONE alone: fixAt(0)", x.fixAt(0), -1);
            Due.told(x, TWO + "bearing a 1 1;bearing b -1 1;");
            x.fix();
            t.is("fixAt(0)", x.fixAt(0), 1);
            t.is("fixAt(1)", x.fixAt(1), -1);
            for (int i : FAR) {
                t.is("fixAt(" + i + ")", x.fixAt(i), -1);
            }
        });
    }
}

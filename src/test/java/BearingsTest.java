/** Promises 37 to 40: where bearings CROSS, what goes through there, and the FIX. */
public final class BearingsTest {
    private static final Due DUE = new Due();

    public static void main(String[] args) {
        crossings();
        leastNumbers();
        notCrossing();
        throughPoints();
        fixes();
        firstOfLikeOnes();
        mostPoints();
        latestStays();
        DUE.close("BearingsTest");
    }

    private static void crossed(WaveRows x, int a, int b, long xAbove, long xBelow, long yAbove, long yBelow) {
        long[] due = {xAbove, xBelow, yAbove, yBelow};
        for (int what = 0; what < 4; what++) {
            DUE.is("cross(" + a + ", " + b + ", " + what + ")", x.cross(a, b, what), due[what]);
            DUE.is("cross(" + b + ", " + a + ", " + what + ")", x.cross(b, a, what), due[what]);
        }
    }

    private static void crossings() {
        WaveRows x = Due.of("station a 0 0;station b 10 0;bearing a 1 1;bearing b -1 1;bearing b -3 1;bearing a 2 -3;"
            + "bearing b 0 -7;");
        crossed(x, 0, 1, 5, 1, 5, 1);
        crossed(x, 0, 2, 5, 2, 5, 2);
        crossed(x, 3, 4, 10, 1, -15, 1);
        DUE.throwsNoSuch("what 4", () -> x.cross(0, 1, 4));
        DUE.throwsNoSuch("what -1", () -> x.cross(0, 1, -1));
        DUE.throwsNoSuch("bearing 5", () -> x.cross(0, 5, 0));
        DUE.throwsNoSuch("bearing -1", () -> x.cross(-1, 0, 0));
        DUE.throwsNoSuch("of one station", () -> x.cross(0, 3, 0));
        DUE.throwsNoSuch("with itself", () -> x.cross(0, 0, 0));
    }

    private static void leastNumbers() {
        WaveRows x = Due.of("station a -99 -99;station b 99 -98;bearing a 97 99;bearing b -99 98;station c 0 -5;"
            + "bearing c 0 3;station d -4 4;bearing d 2 -2;");
        // On x = 0 and y = -x: the least of 0 is 0 by 1.
        crossed(x, 2, 3, 0, 1, 0, 1);
        long above = x.cross(0, 1, 0);
        long below = x.cross(0, 1, 1);
        DUE.is("in least numbers", java.math.BigInteger.valueOf(above).gcd(java.math.BigInteger.valueOf(below))
            .longValue(), 1);
        DUE.is("below above 0", below > 0 && x.cross(0, 1, 3) > 0, true);
        // On a: 99 (X + 99) = 97 (Y + 99); on b: 98 (X - 99) = -99 (Y + 98).
        double px = (double) above / below;
        double py = (double) x.cross(0, 1, 2) / x.cross(0, 1, 3);
        DUE.is("on the first", Math.abs(99 * (px + 99) - 97 * (py + 99)) < 1e-6, true);
        DUE.is("on the second", Math.abs(98 * (px - 99) + 99 * (py + 98)) < 1e-6, true);
    }

    private static void noCrossing(String why, WaveRows x) {
        DUE.throwsNoSuch(why + ": cross", () -> x.cross(0, 1, 0));
        DUE.is(why + ": through", x.through(0, 1), -1);
        DUE.is(why + ": fix", x.fix(), -1);
    }

    private static void notCrossing() {
        String two = "station a 0 0;station b 10 0;";
        noCrossing("parallel", Due.of(two + "bearing a 1 1;bearing b 1 1;"));
        noCrossing("against each other", Due.of(two + "bearing a 1 1;bearing b -1 -1;"));
        noCrossing("behind the first", Due.of(two + "bearing a -1 -1;bearing b -1 1;"));
        noCrossing("behind the second", Due.of(two + "bearing a 1 1;bearing b 1 -1;"));
        noCrossing("behind both", Due.of(two + "bearing a -1 -1;bearing b 1 -1;"));
        noCrossing("face to face on a line", Due.of(two + "bearing a 1 0;bearing b -1 0;"));
        noCrossing("one behind the other on a line", Due.of(two + "bearing a 1 0;bearing b 1 0;"));
        noCrossing("back to back on a line", Due.of(two + "bearing a -1 0;bearing b 1 0;"));
        noCrossing("at the station of the second", Due.of(two + "bearing a 1 0;bearing b 1 1;"));
        noCrossing("at the station of the first", Due.of(two + "bearing a 1 1;bearing b -1 0;"));
        noCrossing("stations in one place", Due.of("station a 3 3;station b 3 3;bearing a 1 0;bearing b 1 1;"));
        noCrossing("one station", Due.of("station a 3 3;bearing a 1 0;bearing a 1 1;"));
    }

    private static void throughPoints() {
        WaveRows x = Due.of("station a 0 0;station b 4 0;station c 0 4;station d 2 2;bearing a 1 1;bearing b -1 1;"
            + "bearing c 3 -3;bearing d 1 1;bearing a 7 7;bearing c 1 0;bearing a -1 -1;bearing b 0 1;");
        // (2, 2): a by 0 and 4, b, c; not d, whose station it is, nor a the other way.
        DUE.is("through(0, 1)", x.through(0, 1), 1 + 2 + 4 + 16);
        DUE.is("through(2, 4)", x.through(2, 4), 1 + 2 + 4 + 16);
        // (4, 4): a, d, c by 5, b by 7.
        DUE.is("through(5, 3)", x.through(5, 3), 1 + 8 + 16 + 32 + 128);
        DUE.is("through(0, 4)", x.through(0, 4), -1);
        DUE.is("through(0, 3)", x.through(0, 3), -1);
        DUE.is("through(1, 2)", x.through(1, 2), -1);
        DUE.is("through(0, 8)", x.through(0, 8), -1);
        DUE.is("through(-1, 1)", x.through(-1, 1), -1);
        DUE.is("fix of one that crosses none", x.fix(), -1);
    }

    private static void fixed(String why, WaveRows x, int... points) {
        DUE.is(why + ": fix()", x.fix(), points.length);
        for (int i = 0; i < points.length; i++) {
            DUE.is(why + ": fixAt(" + i + ")", x.fixAt(i), points[i]);
        }
        DUE.is(why + ": fixAt behind", x.fixAt(points.length), -1);
        DUE.is(why + ": fixAt(-1)", x.fixAt(-1), -1);
    }

    private static void fixes() {
        fixed("no bearings", Due.of("station a 0 0;"));
        fixed("two", Due.of("station a 0 0;station b 10 0;bearing b -1 1;bearing a 1 1;"), 1);
        // All eight through (5, 5), of three stations; the first two are of one station, so 0 and 2 cross first.
        fixed("all in one", Due.of("station a 0 0;station b 10 0;station c 5 0;bearing a 1 1;bearing a 2 2;bearing b -1 1;"
            + "bearing b -2 2;bearing c 0 1;bearing c 0 2;bearing a 3 3;bearing b -4 4;"), 2);
        // One bearing along the ground, and others that come down on it each elsewhere.
        fixed("a comb", Due.of("station z 0 0;station a 1 9;bearing a 0 -1;bearing a 1 -1;bearing a 2 -1;"
            + "bearing a 3 -1;bearing a 4 -1;bearing a 5 -1;bearing a 6 -1;bearing z 1 0;"), 7, 17, 27, 37, 47, 57, 67);
    }

    private static void firstOfLikeOnes() {
        // Two from a, two from b, four points: {02, 13} or {03, 12}.
        fixed("two of two", Due.of("station a 0 0;station b 10 0;bearing a 1 1;bearing a 2 1;bearing b -1 1;"
            + "bearing b -2 1;"), 2, 13);
        fixed("in another order", Due.of("station a 0 0;station b 10 0;bearing a 1 1;bearing b -1 1;bearing a 2 1;"
            + "bearing b -2 1;"), 1, 23);
        // Three bearings: the least pair that holds all is {01, 12} where {01, 02} isn't there.
        fixed("three", Due.of("station a 0 0;station b 10 0;bearing a 1 1;bearing b -1 1;bearing a 2 1;"), 1, 12);
        fixed("three, all cross", Due.of("station a 0 0;station b 10 0;station c 5 0;bearing a 1 1;bearing b -1 1;"
            + "bearing c -1 9;"), 1, 2);
    }

    /** Four stations, and each bearing of one crosses each of another elsewhere: 24 points. */
    private static void mostPoints() {
        WaveRows x = Due.of("station a 0 0;station b 10 0;station c 20 0;station d 30 0;bearing a 9 1;bearing a 7 1;"
            + "bearing b 3 2;bearing b 1 1;bearing c -1 2;bearing c -1 1;bearing d -4 1;bearing d -9 1;");
        for (int a = 0; a < 8; a++) {
            for (int b = a + 1; b < 8; b++) {
                DUE.is("24 points: through(" + a + ", " + b + ")", x.through(a, b), a / 2 == b / 2 ? -1 : 1 << a | 1 << b);
            }
        }
        fixed("24 points", x, 2, 13, 46, 57);
    }

    private static void latestStays() {
        WaveRows x = Due.of("station a 0 0;station b 10 0;bearing a 1 1;bearing a 2 1;bearing b -1 1;bearing b -2 1;");
        DUE.is("ahead of any: fixAt(0)", x.fixAt(0), -1);
        x.fix();
        Due.told(x, "station a 0 0;bearing a 1 1;");
        DUE.is("NONE now: fix()", x.fix(), -1);
        DUE.is("the latest stays: fixAt(0)", x.fixAt(0), 2);
        DUE.is("the latest stays: fixAt(1)", x.fixAt(1), 13);
        Due.told(x, "");
        DUE.is("no bearings: fix()", x.fix(), 0);
        DUE.is("no bearings: fixAt(0)", x.fixAt(0), -1);
    }
}

/** Promises 12 to 16: ORDER, SEEN, TWINS and rows SMOOTHED. */
public final class SeenTest {
    private static final Due DUE = new Due();

    public static void main(String[] args) {
        orders();
        gains();
        nothingHeard();
        twins();
        smoothing();
        smoothingOfUneven();
        smoothingOfMost();
        DUE.close("SeenTest");
    }

    private static String hearers(int many, int from) {
        StringBuilder text = new StringBuilder();
        for (int i = 0; i < many; i++) {
            text.append("hearer ").append(from + i).append(";");
        }
        return text.toString();
    }

    private static long bits(int... directions) {
        long bits = 0;
        for (int d : directions) {
            bits |= 1L << d;
        }
        return bits;
    }

    private static void orders() {
        WaveRows x = Due.of(hearers(4, 0) + "sender a 3 10;sender b 11 1;");
        DUE.is("two senders: order()", x.order(), 2);
        DUE.is("two senders: seen()", x.seen(), bits(3, 11));
        WaveRows y = Due.of(hearers(4, 0) + "sender a 3 10;sender b 11 1 like a;");
        DUE.is("two alike: order()", y.order(), 1);
        DUE.is("two alike: seen()", y.seen(), 0);
        WaveRows z = Due.of(hearers(2, 0) + "sender a 3 10;sender b 11 1;sender c 0 5;");
        DUE.is("more than hearers: order()", z.order(), 2);
        DUE.is("more than hearers: seen()", z.seen(), 4095);
        WaveRows v = Due.of("lattice 60;" + hearers(10, 0) + "sender a 59 1;sender b 0 2;sender c 31 3 drifts 1;");
        DUE.is("sixty: order()", v.order(), 3);
        DUE.is("sixty: seen()", v.seen(), bits(59, 0, 31));
        v.moment(2);
        DUE.is("two moments on: seen()", v.seen(), bits(59, 0, 33));
        v.moment(29);
        DUE.is("two meet: order()", v.order(), 2);
        DUE.is("two meet: seen()", v.seen(), bits(59, 0));
    }

    private static void gains() {
        WaveRows x = Due.of("hearer 0 gain 7;hearer 1 gain 300;hearer 2;hearer 5 gain 999;sender a 3 10;sender b 10 1;");
        DUE.is("gains: order()", x.order(), 2);
        DUE.is("gains: seen()", x.seen(), bits(3, 10));
    }

    private static void nothingHeard() {
        WaveRows x = Due.of(hearers(3, 0));
        DUE.is("no senders: order()", x.order(), 0);
        DUE.is("no senders: seen()", x.seen(), 0);
        WaveRows y = Due.of("lattice 60;");
        DUE.is("no hearers: order()", y.order(), 0);
        DUE.is("no hearers: seen()", y.seen(), (1L << 60) - 1);
        DUE.is("no hearers: twins(59)", y.twins(59), (1L << 59) - 1);
    }

    private static void twins() {
        WaveRows x = Due.of("hearer 1;hearer 5;hearer 11;");
        // Places 4 and 10 apart: a turn by 6 of 12 is unheard.
        DUE.is("twins(0)", x.twins(0), bits(6));
        DUE.is("twins(11)", x.twins(11), bits(5));
        DUE.is("twins(12)", x.twins(12), -1);
        DUE.is("twins(-1)", x.twins(-1), -1);
        WaveRows y = Due.of("hearer 9;hearer 5;");
        DUE.is("4 apart, told backwards: twins(1)", y.twins(1), bits(4, 7, 10));
        DUE.is("one hearer: twins(1)", Due.of("hearer 9;").twins(1), 4095 - 2);
        DUE.is("places 0, 1: twins(1)", Due.of(hearers(2, 0)).twins(1), 0);
        DUE.is("60: twins(0)", Due.of("lattice 60;hearer 0;hearer 30;hearer 60;").twins(58),
            0x555555555555555L - (1L << 58));
    }

    private static void smoothing() {
        // Two that are alike are told apart by rows of three, smoothed.
        WaveRows x = Due.of(hearers(4, 20) + "sender a 3 10;sender b 11 1 like a;");
        DUE.is("smoothed(1)", x.smoothed(1), 1);
        DUE.is("smoothed(2)", x.smoothed(2), 2);
        DUE.is("smoothed(3)", x.smoothed(3), 2);
        DUE.is("smoothed(4)", x.smoothed(4), 1);
        DUE.is("smoothed(5)", x.smoothed(5), -1);
        DUE.is("smoothed(0)", x.smoothed(0), -1);
        DUE.is("smoothed(-1)", x.smoothed(-1), -1);
        DUE.is("smoothSeen(1)", x.smoothSeen(1), 4095);
        DUE.is("smoothSeen(2)", x.smoothSeen(2), 4095);
        DUE.is("smoothSeen(3)", x.smoothSeen(3), bits(3, 11));
        DUE.is("smoothSeen(4)", x.smoothSeen(4), 0);
        DUE.is("smoothSeen(5)", x.smoothSeen(5), -1);
        DUE.is("smoothSeen(0)", x.smoothSeen(0), -1);
        // Without gains: the wave, and not the gained one, is sought in rows that have the gains.
        WaveRows y = Due.of("hearer 0;hearer 1 gain 2;sender a 3 10;");
        DUE.is("gained: smoothed(2)", y.smoothed(2), 1);
        DUE.is("gained: smoothSeen(2)", y.smoothSeen(2), 0);
        DUE.is("gained: seen()", y.seen(), bits(3));
    }

    private static void smoothingOfMost() {
        WaveRows x = Due.of("lattice 60;" + hearers(10, 90) + "sender a 59 1;sender b 0 2;sender c 31 3;");
        DUE.is("ten: smoothed(10)", x.smoothed(10), 3);
        DUE.is("ten: smoothSeen(10)", x.smoothSeen(10), bits(59, 0, 31));
        DUE.is("ten: smoothed(1)", x.smoothed(1), 1);
        DUE.is("ten: smoothSeen(1)", x.smoothSeen(1), (1L << 60) - 1);
    }

    private static void smoothingOfUneven() {
        DUE.is("a gap: smoothed(1)", Due.of("hearer 0;hearer 2;").smoothed(1), -1);
        DUE.is("a gap: smoothSeen(1)", Due.of("hearer 0;hearer 2;").smoothSeen(1), -1);
        DUE.is("backwards: smoothed(1)", Due.of("hearer 1;hearer 0;").smoothed(1), -1);
        DUE.is("a gap behind: smoothed(1)", Due.of("hearer 1;hearer 2;hearer 4;").smoothed(1), -1);
        DUE.is("one: smoothed(1)", Due.of("hearer 42;sender a 1 2;").smoothed(1), 1);
        DUE.is("none: smoothed(0)", new WaveRows().smoothed(0), -1);
        DUE.is("none: smoothSeen(1)", new WaveRows().smoothSeen(1), -1);
    }
}

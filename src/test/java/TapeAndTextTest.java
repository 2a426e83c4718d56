/** Promises 1 to 5 and 43: the new object, the tape, and the text of a field with its faults. */
public final class TapeAndTextTest {
    private static final Due DUE = new Due();

    public static void main(String[] args) {
        newObject();
        feeding();
        ending();
        fields();
        blanksAndTokens();
        faultsOfTokens();
        faultsOfNumbers();
        faultsOfNames();
        faultsOfManyLines();
        firstAndLeastFault();
        longTexts();
        counts();
        lattices();
        DUE.close("TapeAndTextTest");
    }

    private static void newObject() {
        WaveRows x = new WaveRows();
        int[] due = {12, 1009, 160, 0, 0, 0, 0, 0, 0};
        for (int what = 0; what < due.length; what++) {
            DUE.is("new: count(" + what + ")", x.count(what), due[what]);
        }
        DUE.is("new: NONE", WaveRows.NONE, -1);
        DUE.is("new: fault()", x.fault(), 0);
        DUE.is("new: order()", x.order(), 0);
        DUE.is("new: seen()", x.seen(), 4095);
        DUE.is("new: twins(3)", x.twins(3), 4095 - 8);
        DUE.is("new: enough()", x.enough(), -1);
        DUE.is("new: rule(1)", x.rule(1), -1);
        DUE.is("new: fixAt(0)", x.fixAt(0), -1);
        DUE.is("new: image kept", x.restore(0) || x.restore(1), false);
        DUE.throwsNoSuch("new: hearer(0, 0)", () -> x.hearer(0, 0));
        DUE.throwsNoSuch("new: sender(0, 0)", () -> x.sender(0, 0));
    }

    private static void feeding() {
        WaveRows x = new WaveRows();
        DUE.is("feed once", x.feed(1, 2, 3, 4, 5), 20);
        for (int i = 2; i <= 47; i++) {
            DUE.is("feed " + i + " times", x.feed(0, 0, 0, 0, 0), 20 * i);
        }
        DUE.is("feed behind 940", x.feed(0, 0, 0, 0, 0), -1);
        DUE.is("none came", x.count(8), 940);
        x.end(921);
        DUE.is("feed behind 921", x.feed(0, 0, 0, 0, 0), -1);
        DUE.is("none came behind 921", x.count(8), 921);
        x.end(920);
        DUE.is("feed behind 920", x.feed(0, 0, 0, 0, 0), 940);
        highestFirst();
    }

    /** The text comes out as it was put in: of each number the highest byte first, the five in order. */
    private static void highestFirst() {
        WaveRows x = new WaveRows();
        // "hear" "er 7" " gai" "n 99" "9;  "
        x.feed(0x68656172, 0x65722037, 0x20676169, 0x6e203939, 0x393b2020);
        DUE.is("the text fed", x.field(), 1);
        DUE.is("its place", x.hearer(0, 0), 7);
        DUE.is("its gain", x.hearer(0, 1), 999);
        x.feed(0x20202020, 0x202020ff, 0, 0, 0);
        DUE.is("a byte 255", x.field(), -8);
        x.feed(0x20202020, 0x80202020, 0, 0, 0);
        DUE.is("a byte 128", x.field(), -5);
    }

    private static void ending() {
        WaveRows x = new WaveRows();
        DUE.is("end(0) of none", x.end(0), true);
        DUE.is("end(1) of none", x.end(1), false);
        x.feed(0, 0, 0, 0, 0);
        DUE.is("end(-1)", x.end(-1), false);
        DUE.is("end(21)", x.end(21), false);
        DUE.is("end(MAX)", x.end(Integer.MAX_VALUE), false);
        DUE.is("end(MIN)", x.end(Integer.MIN_VALUE), false);
        DUE.is("nothing went", x.count(8), 20);
        DUE.is("end(20)", x.end(20), true);
        DUE.is("all stay", x.count(8), 20);
        DUE.is("end(7)", x.end(7), true);
        DUE.is("seven stay", x.count(8), 7);
        DUE.is("none come back", x.end(8), false);
        // The first bytes stay, not the last ones.
        Due.text(x, "hearer 3;hearer x;");
        x.end(9);
        DUE.is("the first nine", x.field(), 1);
        // Nothing behind the end is read, nor what stood there.
        Due.text(x, "hearer 12345;");
        x.end(8);
        DUE.is("cut within a number", x.field(), -9);
        DUE.is("cut within a number: fault()", x.fault(), 1);
        Due.text(x, "hearer 1;;");
        x.end(9);
        DUE.is("cut behind a line", x.field(), 1);
        for (int i = 0; i < 47; i++) {
            x.feed(0x61616161, 0x61616161, 0x61616161, 0x61616161, 0x61616161);
        }
        DUE.is("a word of 940 letters", x.field(), -1);
    }

    private static void fields() {
        WaveRows x = new WaveRows();
        DUE.is("lines", Due.told(x, "lattice 5;hearer 3;sender a 4 2;station b 1 2;bearing b 0 - 1;"), 5);
        DUE.is("the tape is empty", x.count(8), 0);
        x.moment(7);
        DUE.is("a fault", Due.told(x, "lattice 6;hearer 9;hearer"), -26);
        DUE.is("its kind", x.fault(), 1);
        DUE.is("the tape is empty, whatever is answered", x.count(8), 0);
        DUE.is("the field stays: N", x.count(0), 5);
        DUE.is("the field stays: hearers", x.count(3), 1);
        DUE.is("the field stays: place", x.hearer(0, 0), 3);
        DUE.is("the moment stays", x.count(7), 7);
        DUE.is("another field", Due.told(x, "hearer 4 gain 2;hearer 2;"), 2);
        DUE.is("no fault now", x.fault(), 0);
        DUE.is("at moment 0", x.count(7), 0);
        DUE.is("12 again without lattice", x.count(0), 12);
        DUE.is("the old senders are gone", x.count(4), 0);
        DUE.is("the old stations are gone", x.count(5), 0);
        DUE.is("the old bearings are gone", x.count(6), 0);
        DUE.is("two hearers", x.count(3), 2);
        x.moment(5);
        Due.told(x, "hearer 8;");
        x.moment(6);
        Due.told(x, "hearer 9;");
        DUE.is("at moment 0, whatever it was", x.count(7), 0);
        DUE.is("no line", x.field(), 0);
        DUE.is("no hearers", x.count(3), 0);
        DUE.is("blanks alone", Due.told(x, " \n "), 0);
    }

    private static void right(String text, int lines) {
        WaveRows x = new WaveRows();
        DUE.is("\"" + text + "\"", Due.told(x, text), lines);
        DUE.is("\"" + text + "\" fault()", x.fault(), 0);
    }

    private static void wrong(String text, int place, int kind) {
        WaveRows x = new WaveRows();
        DUE.is("\"" + text + "\"", Due.told(x, text), -1 - place);
        DUE.is("\"" + text + "\" fault()", x.fault(), kind);
    }

    private static void blanksAndTokens() {
        right("lattice 2;", 1);
        right("lattice 60;", 1);
        right("lattice\n60\n;", 1);
        right("hearer 0;hearer 99;", 2);
        right("hearer 007 gain 001;", 1);
        right(" hearer  5 ; ", 1);
        right("hearer 1 gain 999;", 1);
        right("hearer 1;lattice 4;", 2);
        right("station a -99 99;lattice 4;bearing a -1-2;", 3);
        right("station a - 0 -\n0;", 1);
        right("sender abcdefg 11 999;", 1);
        right("sender s 1 1 drifts 11;sender t 1 1 like s;sender u 1 1 drifts 0 like t;", 3);
        right("lattice 60;sender s 59 1 drifts 59;", 2);
        right("station a 0 0;bearing a 0 1;bearing a 1 0;bearing a - 99 - 99;", 4);
    }

    private static void faultsOfTokens() {
        wrong(";", 0, 1);
        wrong("5;", 0, 1);
        wrong("- ", 0, 1);
        wrong(".", 0, 1);
        wrong("hearer .5;", 7, 1);
        wrong("foo 1;", 0, 1);
        wrong("gain 1;", 0, 1);
        wrong("drifts 1;", 0, 1);
        wrong("like s;", 0, 1);
        wrong("Hearer 1;", 0, 1);
        wrong("hearer\t1;", 6, 1);
        wrong("hearer\r1;", 6, 1);
        wrong("hearer 1", 8, 1);
        wrong("hearer 1  \n", 11, 1);
        wrong("hearer", 6, 1);
        wrong("hearer1;", 0, 1);
        wrong("hearer 1gain 2;", 7, 1);
        wrong("hearer 1 gain2;", 9, 1);
        wrong("hearer 0001;", 7, 1);
        wrong("hearer -1;", 7, 1);
        wrong("hearer 1 1;", 9, 1);
        wrong("hearer 1 like;", 9, 1);
        wrong("hearer 1 gain;", 13, 1);
        wrong("hearer 1;;", 9, 1);
        wrong("hearer a;", 7, 1);
        wrong("lattice;", 7, 1);
        wrong("lattice a;", 8, 1);
        wrong("sender abcdefgh 1 1;", 7, 1);
        wrong("sender a1 1 1;", 7, 1);
        wrong("sender 1 1 1;", 7, 1);
        wrong("sender s;", 8, 1);
        wrong("sender s 1;", 10, 1);
        wrong("sender s -1 1;", 9, 1);
        wrong("sender r 1 1;sender s 1 1 like r drifts 1;", 33, 1);
        wrong("sender s 1 1 drifts;", 19, 1);
        wrong("sender s 1 1 drifts 1 drifts 1;", 22, 1);
        wrong("sender r 1 1;sender s 1 1 like;", 30, 1);
        wrong("sender r 1 1;sender s 1 1 like 1;", 31, 1);
        wrong("station 1 1 1;", 8, 1);
        wrong("station a 1;", 11, 1);
        wrong("station a 1 --1;", 13, 1);
        wrong("station a 1 2 3;", 14, 1);
        wrong("station a 0 0;bearing a 1;", 25, 1);
        wrong("station a 0 0;bearing 1 1 1;", 22, 1);
        wrong("station a 0 0;bearing a 1 1 1;", 28, 1);
        for (String word : new String[] {"lattice", "hearer", "gain", "sender", "drifts", "like", "station", "bearing"}) {
            wrong("sender " + word + " 1 1;", 7, 1);
            wrong("station " + word + " 1 1;", 8, 1);
            wrong("station a 0 0;bearing " + word + " 1 1;", 22, 1);
            wrong("sender r 1 1;sender s 1 1 like " + word + ";", 31, 1);
        }
    }

    private static void faultsOfNumbers() {
        wrong("lattice 1;", 8, 2);
        wrong("lattice 0;", 8, 2);
        wrong("lattice 61;", 8, 2);
        wrong("lattice 999;", 8, 2);
        wrong("hearer 100;", 7, 2);
        wrong("hearer 1 gain 0;", 14, 2);
        wrong("sender s 12 1;", 9, 2);
        wrong("lattice 2;sender s 2 1;", 19, 2);
        wrong("sender s 1 0;", 11, 2);
        wrong("sender s 1 1 drifts 12;", 20, 2);
        wrong("lattice 5;sender s 4 1 drifts 5;", 30, 2);
        wrong("station a 100 0;", 10, 2);
        wrong("station a - 100 0;", 12, 2);
        wrong("station a 0 -100;", 13, 2);
        wrong("station a 0 0;bearing a 100 0;", 24, 2);
        wrong("station a 0 0;bearing a 1 100;", 26, 2);
        wrong("station a 0 0;bearing a 0 0;", 26, 2);
        wrong("station a 0 0;bearing a -0 -0;", 28, 2);
        wrong("station a 0 0;bearing a 00 000;", 27, 2);
    }

    private static void faultsOfNames() {
        wrong("lattice 3;lattice 3;", 10, 3);
        wrong("lattice 3;lattice", 10, 3);
        wrong("lattice 3;hearer 1;lattice 3;", 19, 3);
        wrong("sender s 1 1;lattice 3;", 13, 3);
        wrong("lattice 3;sender s 1 1;lattice 3;", 23, 3);
        wrong("hearer 7;hearer 8;hearer 007;", 25, 3);
        wrong("sender s 1 1;sender s 1 1;", 20, 3);
        wrong("sender s 1 1;station s 1 1;", 21, 3);
        wrong("station s 1 1;sender s 1 1;", 21, 3);
        wrong("station s 1 1;station s 1 1;", 22, 3);
        wrong("sender s 1 1 like s;", 18, 3);
        wrong("sender s 1 1 like t;sender t 1 1;", 18, 3);
        wrong("station t 1 1;sender s 1 1 like t;", 32, 3);
        wrong("bearing t 1 1;station t 1 1;", 8, 3);
        wrong("sender t 1 1;bearing t 1 1;", 21, 3);
        wrong("station t 1 1;bearing tt 1 1;", 22, 3);
    }

    private static String many(String line, int times) {
        StringBuilder text = new StringBuilder();
        for (int i = 0; i < times; i++) {
            text.append(line.replace("*", String.valueOf(i)).replace("?", String.valueOf((char) ('a' + i))));
        }
        return text.toString();
    }

    private static void faultsOfManyLines() {
        right(many("hearer 1*;", 10), 10);
        wrong(many("hearer 1*;", 10) + "hearer 5;", 100, 4);
        wrong(many("hearer 1*;", 10) + "hearer", 100, 4);
        right(many("sender ? 1 1;", 6), 6);
        wrong(many("sender ? 1 1;", 6) + "\nsender g 1 1;", 79, 4);
        wrong(many("sender ? 1 1;", 6) + "sender a 99 0;", 78, 4);
        right(many("station ? 1 1;", 4), 4);
        wrong(many("station ? 1 1;", 4) + "station e 1 1;", 56, 4);
        right("station a 1 1;" + many("bearing a 1 *;", 8), 9);
        wrong("station a 1 1;" + many("bearing a 1 *;", 8) + "bearing zz 0 0;", 126, 4);
    }

    private static void firstAndLeastFault() {
        wrong("hearer 100 200;hearer 300;", 7, 2);
        wrong("hearer 5;hearer 5 gain 0;", 16, 3);
        wrong("sender s 99 0 like;", 9, 2);
        wrong("station t 1 1;sender t 99 1;", 21, 3);
        // One token, two faults: a word that can't come is also a name not told.
        wrong("station t 1 1;bearing station 1 1;", 22, 1);
        wrong("sender r 1 1;sender s 1 1 like like;", 31, 1);
    }

    private static String padded(String ahead, int blanks, String behind) {
        return ahead + " ".repeat(blanks) + behind;
    }

    private static void longTexts() {
        right(padded("hearer 1;", 891, ""), 1);
        wrong(padded("hearer 1;", 892, ""), 900, 1);
        wrong(padded("hearer 1;", 931, ""), 900, 1);
        right(padded("hearer 1", 891, ";"), 1);
        wrong(padded("hearer 1", 892, ";"), 900, 1);
        wrong(padded("hearer 1", 891, ";;"), 900, 1);
        wrong(padded("hearer 1", 890, ";;;"), 899, 1);
        wrong(padded("hearer", 890, ""), 896, 1);
        wrong(padded("hearer", 930, ""), 900, 1);
        // Tokens that begin ahead of 900 are read whole, and judged by what they are then.
        wrong(padded("hearer 1;", 886, "hearer 2;"), 900, 1);
        wrong(padded("hearer 1;", 886, "hearers 2;"), 895, 1);
        wrong(padded("hearer 1;", 886, "hearer9 2;"), 895, 1);
        wrong(padded("hearer", 892, "123;"), 898, 2);
        wrong(padded("hearer", 892, "1234;"), 898, 1);
        wrong(padded("hearer", 893, "12;"), 900, 1);
        wrong(padded("hearer", 894, "12;"), 900, 1);
        wrong(padded("hearer 1;hearer", 884, "1"), 899, 3);
        wrong(padded("lattice 4;", 889, "lattice 5;"), 899, 3);
        wrong(padded("lattice 4;", 890, "lattice 5;"), 900, 1);
        wrong(padded("hearer 1;foo", 900, ""), 9, 1);
        wrong(padded("hearer 1;", 890, "\u00e9"), 899, 1);
    }

    private static void counts() {
        WaveRows x = Due.of("lattice 4;hearer 0;hearer 3;hearer 9;sender a 1 1;sender b 1 1;station c 0 0;station d 0 0;"
            + "station e 0 0;station f 0 0;bearing c 1 1;");
        x.moment(999);
        x.feed(0, 0, 0, 0, 0);
        int[] due = {4, 1009, 469, 3, 2, 4, 1, 999, 20};
        for (int what = 0; what < due.length; what++) {
            DUE.is("count(" + what + ")", x.count(what), due[what]);
        }
        DUE.is("count(-1)", x.count(-1), -1);
        DUE.is("count(9)", x.count(9), -1);
        DUE.is("count(MIN)", x.count(Integer.MIN_VALUE), -1);
        DUE.is("count(MAX)", x.count(Integer.MAX_VALUE), -1);
    }

    /** Each N has the least prime above 1000 of its kind, and the least number that comes round by it in N steps. */
    private static void lattices() {
        for (int n = 2; n <= 60; n++) {
            WaveRows x = Due.of("lattice " + n + ";");
            int p = 1001;
            while ((p - 1) % n != 0 || !java.math.BigInteger.valueOf(p).isProbablePrime(50)) {
                p++;
            }
            int w = 1;
            while (roundOf(w, p) != n) {
                w++;
            }
            DUE.is("P for " + n, x.count(1), p);
            DUE.is("W for " + n, x.count(2), w);
        }
    }

    private static int roundOf(int w, int p) {
        int steps = 1;
        for (long power = w; power != 1; power = power * w % p) {
            steps++;
        }
        return steps;
    }
}

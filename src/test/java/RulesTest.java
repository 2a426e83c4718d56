/** Promises 20 to 23: the shortest RULE of a row, its ROOTS and their STRENGTHS. */
public final class RulesTest {
    private static final Due DUE = new Due();
    private static final int P = 1009;

    public static void main(String[] args) {
        rulesOfReadings();
        rulesOfLags();
        notAsTold();
        edges();
        leastNumbers();
        latestStays();
        DUE.close("RulesTest");
    }

    private static String hearers(int many, int from) {
        StringBuilder text = new StringBuilder();
        for (int i = 0; i < many; i++) {
            text.append("hearer ").append(from + i).append(";");
        }
        return text.toString();
    }

    private static void rulesOfReadings() {
        WaveRows x = Due.of("lattice 4;" + hearers(5, 4) + "sender s 3 1;sender w 1 10;");
        DUE.is("two senders: rule(0)", x.rule(0), 2);
        // Waves 469 and 540 are opposite: x^2 = -1.
        DUE.is("two senders: ruleAt(1)", x.ruleAt(1), 0);
        DUE.is("two senders: ruleAt(2)", x.ruleAt(2), P - 1);
        DUE.is("two senders: ruleAt(0)", x.ruleAt(0), -1);
        DUE.is("two senders: ruleAt(3)", x.ruleAt(3), -1);
        DUE.is("two senders: ruleAt(-1)", x.ruleAt(-1), -1);
        DUE.is("two senders: ruleAt(MIN)", x.ruleAt(Integer.MIN_VALUE), -1);
        DUE.is("two senders: roots()", x.roots(), 10);
        DUE.is("two senders: strength(0)", x.strength(0), 10);
        DUE.is("two senders: strength(1)", x.strength(1), 1);
        DUE.is("two senders: strength(2)", x.strength(2), -1);
        DUE.is("two senders: strength(-1)", x.strength(-1), -1);
        // From place 5 on, the strengths are those at the first hearer.
        WaveRows y = Due.of("lattice 4;" + hearers(5, 5) + "sender s 1 10;");
        DUE.is("from 5: rule(0)", y.rule(0), 1);
        DUE.is("from 5: ruleAt(1)", y.ruleAt(1), 469);
        DUE.is("from 5: roots()", y.roots(), 2);
        DUE.is("from 5: strength(0)", y.strength(0), 4690 % P);
        WaveRows z = Due.of("lattice 60;" + hearers(10, 0) + "sender a 59 4;sender b 0 5;sender c 30 6;sender d 7 8;");
        DUE.is("sixty: rule(0)", z.rule(0), 4);
        DUE.is("sixty: roots()", z.roots(), 1L << 59 | 1 | 1L << 30 | 1 << 7);
        DUE.is("sixty: strength(0)", z.strength(0), 5);
        DUE.is("sixty: strength(1)", z.strength(1), 8);
        DUE.is("sixty: strength(2)", z.strength(2), 6);
        DUE.is("sixty: strength(3)", z.strength(3), 4);
    }

    private static void rulesOfLags() {
        WaveRows x = Due.of("lattice 5;hearer 0 gain 3;hearer 1;hearer 4 gain 9;hearer 6;sender a 2 3;sender b 4 2;");
        DUE.is("lags: run()", x.run(), 6);
        DUE.is("lags: rule(1)", x.rule(1), 2);
        DUE.is("lags: roots()", x.roots(), 4 + 16);
        DUE.is("lags: strength(0)", x.strength(0), 9);
        DUE.is("lags: strength(1)", x.strength(1), 4);
        DUE.is("uneven: rule(0)", x.rule(0), -1);
        DUE.is("the latest stays: ruleAt(1)", x.ruleAt(1), (x.wave(2, 1) + x.wave(4, 1)) % x.count(1));
        // Four lags, 0 to 3, of three hearers.
        WaveRows y = Due.of("lattice 7;hearer 3;hearer 1;hearer 0;sender a 1 1;sender b 2 1;sender c 5 1;");
        DUE.is("four lags: run()", y.run(), 3);
        DUE.is("four lags: rule(1)", y.rule(1), 2);
        DUE.is("by the lags themselves", y.lag(2),
            ((long) y.ruleAt(1) * y.lag(1) + (long) y.ruleAt(2) * y.lag(0)) % y.count(1));
        DUE.is("by the lags themselves, on", y.lag(3),
            ((long) y.ruleAt(1) * y.lag(2) + (long) y.ruleAt(2) * y.lag(1)) % y.count(1));
        longRun();
    }

    /** The longest row there is: 37 lags. */
    private static void longRun() {
        WaveRows x = Due.of("lattice 60;hearer 0;hearer 1;hearer 3;hearer 6;hearer 13;hearer 20;hearer 27;hearer 31;"
            + "hearer 35;hearer 36;sender a 1 3;sender b 8 4;sender c 20 5;sender d 33 6;sender e 40 7;sender f 59 8;");
        DUE.is("37 lags: rule(1)", x.rule(1), 6);
        DUE.is("37 lags: roots()", x.roots(), 1L << 1 | 1 << 8 | 1 << 20 | 1L << 33 | 1L << 40 | 1L << 59);
        DUE.is("37 lags: strength(0)", x.strength(0), 9);
        DUE.is("37 lags: strength(5)", x.strength(5), 64);
    }

    private static void notAsTold() {
        WaveRows x = new WaveRows();
        DUE.is("no hearers: rule(0)", x.rule(0), -1);
        DUE.is("no hearers: rule(1)", x.rule(1), -1);
        DUE.is("ahead of any: ruleAt(1)", x.ruleAt(1), -1);
        DUE.is("ahead of any: roots()", x.roots(), 0);
        DUE.is("ahead of any: strength(0)", x.strength(0), -1);
        WaveRows y = Due.of(hearers(2, 0));
        DUE.is("another what: rule(2)", y.rule(2), -1);
        DUE.is("another what: rule(-1)", y.rule(-1), -1);
        DUE.is("backwards: rule(0)", Due.of("hearer 1;hearer 0;").rule(0), -1);
    }

    private static void edges() {
        WaveRows x = Due.of(hearers(3, 0));
        DUE.is("all 0: rule(0)", x.rule(0), 0);
        DUE.is("all 0: ruleAt(1)", x.ruleAt(1), -1);
        DUE.is("all 0: roots()", x.roots(), 0);
        DUE.is("all 0: strength(0)", x.strength(0), -1);
        WaveRows y = Due.of("hearer 9;sender a 1 5;");
        DUE.is("one reading: rule(0)", y.rule(0), 1);
        DUE.is("one reading: ruleAt(1)", y.ruleAt(1), 0);
        DUE.is("one reading: roots()", y.roots(), 0);
        DUE.is("one reading: strength(0)", y.strength(0), -1);
        // 5, 0, 0: the number 0 does, and no direction's wave is 0.
        WaveRows z = Due.of("hearer 0;hearer 1;hearer 2;sender a 1 5;");
        Due.readings(z, 5, 0, 0);
        z.mend(1);
        DUE.is("5, 0, 0: rule(0)", z.rule(0), 1);
        DUE.is("5, 0, 0: ruleAt(1)", z.ruleAt(1), 0);
        DUE.is("5, 0, 0: roots()", z.roots(), 0);
        lastAlone();
    }

    private static void lastAlone() {
        // Senders of 2 directions cancel each other at even places: 0, s, 0.
        WaveRows x = Due.of("lattice 2;hearer 0;hearer 1;sender a 0 5;sender b 1 999;sender c 1 5;");
        DUE.is("0, s: reading(0)", x.reading(0), 0);
        DUE.is("0, s: rule(0)", x.rule(0), 2);
        DUE.is("0, s: ruleAt(1)", x.ruleAt(1), 0);
        DUE.is("0, s: ruleAt(2)", x.ruleAt(2), 0);
        DUE.is("0, s: roots()", x.roots(), 0);
        DUE.is("0, s: strength(0)", x.strength(0), -1);
    }

    /** Where more numbers than one do, later ones are 0. */
    private static void leastNumbers() {
        WaveRows x = Due.of("lattice 4;hearer 0;hearer 1;hearer 2 gain 2;sender s 1 10;sender u 2 5;sender w 3 1;");
        DUE.is("16, 180, 997: rule(0)", x.rule(0), 2);
        DUE.is("16, 180, 997: ruleAt(1)", x.ruleAt(1) * 180 % P, 997);
        DUE.is("16, 180, 997: ruleAt(2)", x.ruleAt(2), 0);
        // s, 0, t: c1 has no use, its column is 0.
        WaveRows y = Due.of("lattice 4;hearer 0;hearer 1;hearer 2 gain 2;sender s 0 10;sender u 2 10;");
        DUE.is("20, 0, 40: rule(0)", y.rule(0), 2);
        DUE.is("20, 0, 40: ruleAt(1)", y.ruleAt(1), 0);
        DUE.is("20, 0, 40: ruleAt(2)", y.ruleAt(2), 2);
        WaveRows z = Due.of("lattice 4;" + hearers(4, 0) + "sender s 0 10;sender u 2 10;");
        DUE.is("20, 0, 20, 0: rule(0)", z.rule(0), 2);
        DUE.is("20, 0, 20, 0: ruleAt(1)", z.ruleAt(1), 0);
        DUE.is("20, 0, 20, 0: ruleAt(2)", z.ruleAt(2), 1);
        DUE.is("20, 0, 20, 0: roots()", z.roots(), 5);
        DUE.is("20, 0, 20, 0: strength(0)", z.strength(0), 10);
        DUE.is("20, 0, 20, 0: strength(1)", z.strength(1), 10);
    }

    private static void latestStays() {
        WaveRows x = Due.of("lattice 60;" + hearers(6, 0) + "sender a 59 4;sender b 3 5;");
        DUE.is("rule(0)", x.rule(0), 2);
        int first = x.ruleAt(1);
        Due.told(x, "lattice 2;hearer 0;hearer 2;sender a 1 5;");
        DUE.is("another field: rule(0)", x.rule(0), -1);
        DUE.is("the rule stays: ruleAt(1)", x.ruleAt(1), first);
        DUE.is("by the field it was of: roots()", x.roots(), 1L << 59 | 8);
        DUE.is("by the field it was of: strength(0)", x.strength(0), 5);
        DUE.is("by the field it was of: strength(1)", x.strength(1), 4);
        DUE.is("another field: rule(1)", x.rule(1), 1);
        DUE.is("it is told now: ruleAt(1)", x.ruleAt(1), 0);
        DUE.is("it is told now: roots()", x.roots(), 0);
        DUE.is("it is told now: strength(0)", x.strength(0), -1);
    }
}

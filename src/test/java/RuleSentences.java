/** The sentences of the shortest RULE of a row, its ROOTS and their STRENGTHS: promises 20 to 23, and their terms. */
final class RuleSentences {
    private static final int P = 1009;
    private static final int[] FAR = {Integer.MIN_VALUE, -2, -1, 11, 46, 47, 1000, Integer.MAX_VALUE};

    private RuleSentences() {
    }

    static void all(Sentences s) {
        shortest(s);
        leastNumbers(s);
        rootsOfRules(s);
        strengthsOfRules(s);
        rule(s);
        ruleAt(s);
        roots(s);
        strength(s);
    }

    private static String hearers(int many, int from) {
        StringBuilder text = new StringBuilder();
        for (int i = 0; i < many; i++) {
            text.append("hearer ").append(from + i).append(";");
        }
        return text.toString();
    }

    /** EVEN hearers by n directions that read this row, the first of which isn't 0: by their gains. */
    private static WaveRows row(int n, int... row) {
        WaveRows x = Due.of("lattice " + n + ";hearer 0 gain " + row[0] + ";" + hearers(row.length - 1, 1)
            + "sender a 0 1;");
        Due.readings(x, row);
        x.mend(0);
        return x;
    }

    /** So many hearers, all of which read 0 but the last one, which stands at an odd place. */
    private static WaveRows lastAlone(int many) {
        WaveRows x = Due.of("lattice 2;" + hearers(many, 0) + "sender a 0 5;sender b 1 999;sender c 1 5;");
        int[] gains = new int[many];
        gains[0] = 1;
        gains[many - 1] = 1;
        Due.readings(x, gains);
        x.mend(0);
        return x;
    }

    private static void ruled(Sentences t, WaveRows x, int... due) {
        t.is("rule(0)", x.rule(0), due.length);
        for (int k = 1; k <= due.length; k++) {
            t.is("of " + due.length + ": ruleAt(" + k + ")", x.ruleAt(k), Math.floorMod(due[k - 1], P));
        }
        t.is("of " + due.length + ": ruleAt behind", x.ruleAt(due.length + 1), -1);
    }

    private static void shortest(Sentences s) {
        s.terms("Promise 20: rule", "RULE of a row s0 .. sn: the least k for which there are c1 .. ck with"
            + " st = c1 s(t-1) + .. + ck s(t-k) for all t from k to n;", t -> {
            ruled(t, Due.of("hearer 0;"));
            ruled(t, Due.of(hearers(10, 0)));
            ruled(t, row(2, 5), 0);
            ruled(t, row(2, 5, 5), 1);
            ruled(t, row(2, 5, 0), 0);
            ruled(t, row(2, 5, 0, 0, 0), 0);
            ruled(t, row(2, 1, 2, 4, 8), 2);
            ruled(t, row(2, 1, 1, 2, 3, 5, 8, 13, 21, 34, 55), 1, 1);
            // 21 a + 13 b = 34 and 34 a + 21 b = 54.
            ruled(t, row(2, 1, 1, 2, 3, 5, 8, 13, 21, 34, 54), -12, 22, 0, 0, 0, 0, 0, 0);
            ruled(t, row(2, 1, 0, 0, 0, 0, 0, 0, 0, 0, 7), 0, 0, 0, 0, 0, 0, 0, 0, 7);
            // Nothing is asked of as many numbers as the row has.
            ruled(t, lastAlone(2), 0, 0);
            ruled(t, lastAlone(10), 0, 0, 0, 0, 0, 0, 0, 0, 0, 0);
        });
    }

    private static void leastNumbers(Sentences s) {
        s.terms("Promise 21: ruleAt", "of these, from c1 on, each one is 0 the column of which (s(t-j) for all t) is made of those of"
            + " lesser ones.", t -> {
            // 5 is half 5 times 2, and 9 is a quarter of 9 times 4.
            ruled(t, row(2, 1, 2, 5), 5 * 505, 0);
            ruled(t, row(2, 1, 2, 4, 9), 9 * ByHand.inverse(4, P) % P, 0, 0);
            // A column of 0 is made of none.
            ruled(t, row(2, 1, 0, 5), 0, 5);
            ruled(t, row(2, 1, 0, 0, 5), 0, 0, 5);
            ruled(t, row(2, 3, 0, 3, 0), 0, 1);
            ruled(t, row(2, 1, 1, 1, 2), 2, 0, 0);
            // Of an earlier rule nothing is left.
            WaveRows x = row(2, 1, 1, 2, 3, 5);
            ruled(t, x, 1, 1);
            Due.readings(x, 1, 0, 1, 0, 1);
            x.mend(0);
            ruled(t, x, 0, 1);
            Due.readings(x, 1, 0, 0, 5, 0);
            x.mend(0);
            ruled(t, x, 0, 0, 5);
            Due.readings(x, 1, 0, 0, 0, 0);
            x.mend(0);
            ruled(t, x, 0);
        });
    }

    private static void rootsOfRules(Sentences s) {
        s.terms("Promise 22: roots", "ROOTS: directions d with x^k = c1 x^(k-1) + .. + ck for x = WAVE of d at 1.", t -> {
            rooted(t, "nothing heard", Due.of("lattice 60;hearer 0;"), 0);
            rooted(t, "5", row(60, 5), 0);
            rooted(t, "5, 0", row(60, 5, 0), 0);
            rooted(t, "5, 5", row(60, 5, 5), 1);
            rooted(t, "1, 2, 4", row(60, 1, 2, 4), 0);
            rooted(t, "1, 0, 1, 0 of 2", row(2, 1, 0, 1, 0), 3);
            rooted(t, "1, 0, 1, 0 of 3", row(3, 1, 0, 1, 0), 1);
            rooted(t, "1, 0, 1, 0 of 60", row(60, 1, 0, 1, 0), 1L << 30 | 1);
            rooted(t, "1, 2, 3, 4", row(4, 1, 2, 3, 4), 1);
            rooted(t, "0, 0, 0, s", lastAlone(4), 0);
            for (int d : new int[] {0, 1, 30, 59}) {
                rooted(t, "one SENDER in " + d, Due.of("lattice 60;" + hearers(3, 40) + "sender a " + d + " 9;"), 1L << d);
            }
        });
    }

    private static void rooted(Sentences t, String why, WaveRows x, long due) {
        t.is(why + ": rule(0)", x.rule(0) >= 0, true);
        t.is(why + ": roots()", x.roots(), due);
    }

    private static void strengthsOfRules(Sentences s) {
        s.terms("Promise 23: strength", "STRENGTHS: where a RULE has as many ROOTS as numbers (1 at least): numbers, one for each ROOT, with"
            + " which st is the sum of number times WAVE of the ROOT at t, for t from 0 to k less 1.", t -> {
            strong(t, "no number, no ROOT", Due.of("lattice 60;hearer 0;"));
            strong(t, "one number, no ROOT", row(2, 1, 2, 4));
            strong(t, "two numbers, one ROOT", row(4, 1, 2, 3, 4));
            strong(t, "two numbers, one ROOT, of 3", row(3, 1, 0, 1, 0));
            strong(t, "one of each", row(2, 5, 5, 5), 5);
            strong(t, "one of each, P less 1", row(2, 5, P - 5, 5), 5);
            strong(t, "two of each", row(2, 8, 2, 8, 2), 5, 3);
            strong(t, "from place 41 on", Due.of("lattice 2;" + hearers(3, 41) + "sender a 1 9;"), P - 9);
            strong(t, "five of each", Due.of("lattice 12;" + hearers(10, 12) + "sender b 0 1;sender c 10 4;sender d 2 2;"
                + "sender e 11 5;sender f 5 3;"), 1, 2, 3, 4, 5);
        });
    }

    private static void strong(Sentences t, String why, WaveRows x, int... due) {
        t.is(why + ": rule(0)", x.rule(0) >= 0, true);
        for (int k = 0; k < due.length; k++) {
            t.is(why + ": strength(" + k + ")", x.strength(k), due[k]);
        }
        t.is(why + ": strength behind", x.strength(due.length), -1);
    }

    private static void rule(Sentences s) {
        String rule = "Promise 20: rule";
        s.says(rule, "RULE of READINGS of EVEN HEARERS (what 0), of LAGS 0 to RUN (1): k.", t -> {
            WaveRows x = Due.of("lattice 4;" + hearers(5, 4) + "sender s 3 1;sender w 1 10;");
            t.is("of READINGS", x.rule(0), 2);
            t.is("of READINGS: strength(0)", x.strength(0), 10);
            t.is("of LAGS", x.rule(1), 2);
            t.is("of LAGS: strength(0)", x.strength(0), 100);
            // LAGS 0 and 1 alone: 2 is not there, though 3 is.
            WaveRows y = Due.of("lattice 7;hearer 0;hearer 1;hearer 4;sender a 1 1;sender b 2 1;sender c 5 1;");
            t.is("RUN 1", y.run(), 1);
            t.is("of two LAGS", y.rule(1), 1);
            t.is("of two LAGS: ruleAt(1)", (long) y.ruleAt(1) * y.lag(0) % y.count(1), y.lag(1));
            WaveRows z = Due.of("hearer 0;hearer 2;sender a 1 5;");
            t.is("RUN 0", z.rule(1), 1);
            t.is("RUN 0: ruleAt(1)", z.ruleAt(1), 0);
            t.is("LAGS of nothing", Due.of("hearer 3;hearer 1;").rule(1), 0);
            WaveRows far = Due.of("lattice 60;hearer 0;hearer 1;hearer 3;hearer 6;hearer 13;hearer 20;hearer 27;hearer 31;"
                + "hearer 35;hearer 36;sender a 1 3;sender b 8 4;sender c 20 5;sender d 33 6;sender e 40 7;sender f 59 8;");
            t.is("37 LAGS", far.rule(1), 6);
            t.is("37 LAGS: strength(5)", far.strength(5), 64);
            // Six hearers hear this; only the later LAGS of it show that five numbers don't do.
            t.is("37 LAGS: roots()", far.roots(), 1L << 1 | 1 << 8 | 1 << 20 | 1L << 33 | 1L << 40 | 1L << 59);
        });
        s.says(rule, "NONE: not EVEN (what 0), no HEARERS, another what.", t -> {
            WaveRows uneven = Due.of("hearer 1;hearer 0;sender a 1 1;");
            t.is("not EVEN: rule(0)", uneven.rule(0), -1);
            t.is("not EVEN: rule(1)", uneven.rule(1), 1);
            t.is("a gap: rule(0)", Due.of("hearer 0;hearer 1;hearer 3;").rule(0), -1);
            t.is("no HEARERS: rule(0)", new WaveRows().rule(0), -1);
            t.is("no HEARERS: rule(1)", new WaveRows().rule(1), -1);
            t.is("no HEARERS: rule(2)", new WaveRows().rule(2), -1);
            for (int what : new int[] {-1, 2, 3, Integer.MIN_VALUE, Integer.MAX_VALUE}) {
                t.is("rule(" + what + ")", Due.of("hearer 0;").rule(what), -1);
            }
            WaveRows lost = Due.of("hearer 0;");
            t.is("one: rule(0)", lost.rule(0), 0);
            lost.lose(0);
            t.is("it is lost: rule(0)", lost.rule(0), -1);
            t.is("it is lost: rule(1)", lost.rule(1), -1);
        });
    }

    private static void ruleAt(Sentences s) {
        String ruleAt = "Promise 21: ruleAt";
        s.says(ruleAt, "ck of the latest rule() that was not NONE (k from 1);", t -> {
            WaveRows x = row(2, 1, 1, 2, 3, 5);
            x.rule(0);
            t.is("ruleAt(1)", x.ruleAt(1), 1);
            t.is("ruleAt(2)", x.ruleAt(2), 1);
            t.is("rule(2)", x.rule(2), -1);
            t.is("after NONE: ruleAt(2)", x.ruleAt(2), 1);
            Due.told(x, "hearer 2;hearer 1;sender a 0 1;");
            t.is("another FIELD: rule(0)", x.rule(0), -1);
            t.is("another FIELD: ruleAt(2)", x.ruleAt(2), 1);
            x.rule(1);
            t.is("a later one: ruleAt(1)", x.ruleAt(1), 1);
            t.is("a later one: ruleAt(2)", x.ruleAt(2), -1);
            Due.told(x, "hearer 2;");
            t.is("of no numbers: rule(0)", x.rule(0), 0);
            t.is("of no numbers: ruleAt(1)", x.ruleAt(1), -1);
        });
        s.says(ruleAt, "NONE: there is none such, or ahead of any.", t -> {
            WaveRows x = row(2, 1, 1, 2, 3, 5);
            t.is("ahead of any: ruleAt(1)", x.ruleAt(1), -1);
            x.rule(2);
            t.is("after NONE alone: ruleAt(1)", x.ruleAt(1), -1);
            x.rule(0);
            t.is("ruleAt(0)", x.ruleAt(0), -1);
            t.is("ruleAt(3)", x.ruleAt(3), -1);
            for (int k : FAR) {
                t.is("ruleAt(" + k + ")", x.ruleAt(k), -1);
            }
            WaveRows ten = lastAlone(10);
            ten.rule(0);
            t.is("ten: ruleAt(10)", ten.ruleAt(10), 0);
            t.is("ten: ruleAt(11)", ten.ruleAt(11), -1);
        });
    }

    private static void roots(Sentences s) {
        s.says("Promise 22: roots", "ROOTS of it (by the FIELD it was of), as bits; 0 ahead of any.", t -> {
            WaveRows x = Due.of("lattice 60;" + hearers(6, 0) + "sender a 59 4 drifts 1;sender b 3 5;");
            t.is("ahead of any", x.roots(), 0);
            x.rule(2);
            t.is("after NONE alone", x.roots(), 0);
            t.is("rule(0)", x.rule(0), 2);
            t.is("two", x.roots(), 1L << 59 | 8);
            x.moment(1);
            t.is("of the moment it was", x.roots(), 1L << 59 | 8);
            Due.told(x, "lattice 2;hearer 0;hearer 2;sender a 1 5;");
            t.is("of the FIELD it was", x.roots(), 1L << 59 | 8);
            t.is("NONE", x.rule(0), -1);
            t.is("after NONE", x.roots(), 1L << 59 | 8);
            t.is("of two LAGS", x.rule(1), 1);
            t.is("none now", x.roots(), 0);
            Due.told(x, "lattice 60;" + hearers(10, 0) + "sender a 59 4;sender b 3 5;sender c 30 6;");
            t.is("three", x.rule(0) == 3 && x.roots() == (1L << 59 | 8 | 1 << 30), true);
            Due.told(x, "lattice 60;" + hearers(10, 0) + "sender b 58 5;");
            t.is("one, after three", x.rule(0) == 1 && x.roots() == 1L << 58, true);
            Due.told(x, "lattice 60;" + hearers(10, 0));
            t.is("none, after one", x.rule(0) == 0 && x.roots() == 0, true);
        });
    }

    private static void strength(Sentences s) {
        String strength = "Promise 23: strength";
        s.says(strength, "STRENGTHS of the latest rule() that was not NONE (by the FIELD it was of): the k-th ROOT's (rising);", t -> {
            WaveRows x = Due.of("lattice 60;" + hearers(6, 0) + "sender a 59 4 drifts 1;sender b 3 5;sender c 30 6;");
            t.is("rule(0)", x.rule(0), 3);
            String[] when = {"now", "after NONE", "another FIELD"};
            for (String now : when) {
                t.is(now + ": strength(0)", x.strength(0), 5);
                t.is(now + ": strength(1)", x.strength(1), 6);
                t.is(now + ": strength(2)", x.strength(2), 4);
                t.is(now + ": strength(3)", x.strength(3), -1);
                x.rule(now.equals("now") ? 2 : 0);
                if (now.equals("after NONE")) {
                    x.moment(1);
                    Due.told(x, "lattice 2;hearer 0;hearer 2;sender a 1 5;");
                    x.rule(0);
                }
            }
        });
        s.says(strength, "NONE: there are none, none such, or ahead of any.", t -> {
            WaveRows x = row(2, 8, 2, 8, 2);
            t.is("ahead of any: strength(0)", x.strength(0), -1);
            x.rule(2);
            t.is("after NONE alone: strength(0)", x.strength(0), -1);
            x.rule(0);
            t.is("strength(1)", x.strength(1), 3);
            t.is("strength(2)", x.strength(2), -1);
            for (int k : FAR) {
                t.is("strength(" + k + ")", x.strength(k), -1);
            }
            // There are none where a ROOT is missing, nor of an earlier rule().
            Due.told(x, "hearer 0;sender a 1 5;");
            t.is("a number without a ROOT: rule(0)", x.rule(0), 1);
            t.is("a number without a ROOT: strength(0)", x.strength(0), -1);
            t.is("no number: rule(0)", Due.told(x, "hearer 0;") == 1 && x.rule(0) == 0, true);
            t.is("no number: strength(0)", x.strength(0), -1);
        });
    }
}

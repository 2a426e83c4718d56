/** The sentences of the tape, of the text of a field and of its faults: promises 1 to 5 and 43, and their terms. */
final class TextSentences {

    private TextSentences() {
    }

    static void all(Sentences s) {
        useOfAnObject(s);
        tokens(s);
        lines(s);
        names(s);
        faultsOfTokens(s);
        faultsOfNumbersAndNames(s);
        newObject(s);
        feed(s);
        end(s);
        field(s);
        fault(s);
        count(s);
    }

    private static String padded(String ahead, int blanks, String behind) {
        return ahead + " ".repeat(blanks) + behind;
    }

    /** The line so many times, with the number of each for * and a letter of each for ?. */
    private static String many(String line, int times) {
        StringBuilder text = new StringBuilder();
        for (int i = 0; i < times; i++) {
            text.append(line.replace("*", String.valueOf(i)).replace("?", String.valueOf((char) ('a' + i))));
        }
        return text.toString();
    }

    private static void useOfAnObject(Sentences s) {
        s.says("What it is", "An object is used for at most 512 calls after it has been made;", t -> {
            WaveRows x = new WaveRows();
            for (int call = 1; call <= 508; call++) {
                x.moment(call);
            }
            x.feed(0x68656172, 0x65722033, 0x3b000000, 0, 0);
            x.end(9);
            t.is("call 511, field()", x.field(), 1);
            t.is("call 512, hearer(0, 0)", x.hearer(0, 0), 3);
        });
    }

    private static void tokens(Sentences s) {
        s.terms("Promise 4: field", "TOKENS of all texts, with blanks (32, 10) between them or not:", t -> {
            t.right("hearer 1 gain 2;hearer 3;", 2);
            t.right(" hearer\n1\n\n gain  2 ; \n hearer 3;\n ", 2);
            t.right("station a-1-2;bearing a-0-1;", 2);
            for (int other : new int[] {0, 9, 11, 12, 13, 31, 33, 127, 128, 160, 255}) {
                t.wrong("hearer" + (char) other + "1;", 6, 1);
                t.wrong((char) other + "hearer 1;", 0, 1);
            }
        });
        s.terms("Promise 4: field", "WORDS: small letters, 1 to 7;", t -> {
            t.right("sender a 0 1;sender z 0 1;", 2);
            t.right("sender abcdefg 0 1;sender abcdefz 0 1;sender bbcdefg 0 1;sender abcdef 0 1;", 4);
            t.wrong("sender abcdefgh 0 1;", 7, 1);
            t.wrong("sender A 0 1;", 7, 1);
            t.wrong("sender aB 0 1;", 8, 1);
            t.wrong("sender ` 0 1;", 7, 1);
            t.wrong("sender { 0 1;", 7, 1);
            t.wrong("sender " + (char) 225 + " 0 1;", 7, 1);
            t.wrong("Hearer 1;", 0, 1);
        });
        s.terms("Promise 4: field", "NUMBERS: 1 to 3 digits;", t -> {
            for (int digit = 0; digit <= 9; digit++) {
                t.is("the place", t.right("hearer " + digit + ";", 1).hearer(0, 0), digit);
            }
            t.is("two digits", t.right("hearer 09;", 1).hearer(0, 0), 9);
            t.is("three digits", t.right("hearer 098;", 1).hearer(0, 0), 98);
            t.wrong("hearer 0098;", 7, 1);
            t.wrong("hearer 00000000000000000001;", 7, 1);
            t.wrong("hearer /;", 7, 1);
            t.wrong("hearer :;", 7, 1);
        });
        s.terms("Promise 4: field", "; - .", t -> {
            t.right("hearer 1 ; station a - 1 0 ;", 2);
            t.wrong(";", 0, 1);
            t.wrong("-", 0, 1);
            t.wrong("-hearer 1;", 0, 1);
            t.wrong("hearer - 1;", 7, 1);
            t.wrong("hearer 1 -;", 9, 1);
            t.wrong("lattice -4;", 8, 1);
            t.wrong("hearer 1 gain -1;", 14, 1);
            t.wrong("sender a 0 -1;", 11, 1);
            t.wrong("hearer 1.", 8, 1);
            t.wrong("hearer 1;.", 9, 1);
            t.wrong("hearer 1,", 8, 1);
        });
        s.terms("Promise 4: field", "(A WORD, NUMBER goes on as long as small letters and digits do; what is not as told is no TOKEN.)", t -> {
            t.wrong("hearer1;", 0, 1);
            t.wrong("lattice2;", 0, 1);
            t.wrong("hearer 1gain 2;", 7, 1);
            t.wrong("hearer 1 gain2;", 9, 1);
            t.wrong("sender a1 0 1;", 7, 1);
            t.wrong("sender 1a 0 1;", 7, 1);
            t.wrong("hearer 1 gain 0a;", 14, 1);
            // A NUMBER too great is one; with a letter behind it, it is no TOKEN.
            t.wrong("hearer 100;", 7, 2);
            t.wrong("hearer 100a;", 7, 1);
            t.wrong("hearer 100 a;", 7, 2);
            t.wrong("hearer 1A;", 8, 1);
            t.wrong("a".repeat(940), 0, 1);
            t.wrong("1".repeat(940), 0, 1);
            // As long as they do, and no longer than the tape: what stood behind its end is not read.
            WaveRows x = new WaveRows();
            Due.text(x, "hearers 1;");
            x.end(6);
            t.is("hearers, of which hearer is left", x.field(), -7);
            Due.text(x, "hearer 1234;");
            x.end(10);
            t.is("1234, of which 123 is left", x.field(), -8);
            t.is("1234, of which 123 is left: fault()", x.fault(), 2);
        });
    }

    private static void lines(Sentences s) {
        s.terms("Promise 4: field", "A FIELD is a text of at most 900 bytes: { LINE ; }.", t -> {
            t.right("", 0);
            t.right(" \n ", 0);
            t.right("hearer 1;", 1);
            t.right("hearer 1;hearer 2;", 2);
            t.right(padded("hearer 1;", 891, ""), 1);
            t.right(padded("hearer 1", 891, ";"), 1);
            t.wrong(padded("hearer 1;", 892, ""), 900, 1);
            t.wrong(padded("hearer 1", 892, ";"), 900, 1);
            t.wrong(padded("", 901, ""), 900, 1);
            t.wrong("hearer 1", 8, 1);
            t.wrong("hearer 1;;", 9, 1);
            t.wrong("hearer 1 hearer 2;", 9, 1);
        });
        s.terms("Promise 4: field", "LINE: 'lattice' N (2 to 60 DIRECTIONS; 12 without; once, ahead of all senders)", t -> {
            t.is("the least N", t.right("lattice 2;", 1).count(0), 2);
            t.is("the greatest N", t.right("lattice 60;", 1).count(0), 60);
            t.wrong("lattice 1;", 8, 2);
            t.wrong("lattice 0;", 8, 2);
            t.wrong("lattice 61;", 8, 2);
            t.wrong("lattice 999;", 8, 2);
            t.wrong("lattice;", 7, 1);
            t.is("without", t.right("hearer 1;", 1).count(0), 12);
            t.is("behind other lines", t.right("hearer 1;station a 0 0;bearing a 1 1;lattice 5;sender b 4 1;", 5).count(0), 5);
            t.wrong("lattice 5;lattice 5;", 10, 3);
            t.wrong("sender a 0 1;lattice 5;", 13, 3);
        });
        s.terms("Promise 4: field", "| 'hearer' PLACE [ 'gain' G ] (0 to 99, each once; 1 to 999, 1 without)", t -> {
            WaveRows x = t.right("hearer 0 gain 1;hearer 99 gain 999;hearer 98;", 3);
            int[] due = {0, 1, 99, 999, 98, 1};
            for (int i = 0; i < due.length; i++) {
                t.is("hearer(" + i / 2 + ", " + i % 2 + ")", x.hearer(i / 2, i % 2), due[i]);
            }
            t.wrong("hearer 100;", 7, 2);
            t.wrong("hearer 999;", 7, 2);
            t.wrong("hearer 1 gain 0;", 14, 2);
            t.wrong("hearer 1 gain 1000;", 14, 1);
            t.wrong("hearer 0;hearer 0;", 16, 3);
            t.wrong("hearer 99;hearer 1;hearer 99;", 26, 3);
            t.wrong("hearer;", 6, 1);
            t.wrong("hearer 1 gain;", 13, 1);
            t.wrong("hearer 1 gain 2 gain 2;", 16, 1);
        });
        sender(s);
        s.terms("Promise 4: field", "| 'station' NAME X Y", t -> {
            t.is("stations", t.right("station a 1 2;station b 1 2;", 2).count(5), 2);
            t.wrong("station 1 2;", 8, 1);
            t.wrong("station a;", 9, 1);
            t.wrong("station a 1;", 11, 1);
            t.wrong("station a 1 2 3;", 14, 1);
        });
        s.terms("Promise 4: field", "| 'bearing' STATION DX DY (not both 0).", t -> {
            t.is("bearings", t.right("station a 1 2;bearing a 0 1;bearing a 1 0;bearing a 1 1;", 4).count(6), 3);
            t.wrong("station a 1 2;bearing a 0 0;", 26, 2);
            t.wrong("station a 1 2;bearing a -0 -0;", 28, 2);
            t.wrong("station a 1 2;bearing a 1;", 25, 1);
            t.wrong("station a 1 2;bearing 1 1;", 22, 1);
            t.wrong("station a 1 2;bearing a 1 1 1;", 28, 1);
        });
        s.terms("Promise 4: field", "X, Y, DX, DY: [ '-' ] NUMBER (0 to 99).", t -> {
            t.right("station a 99 -99;station b -99 99;station c -0 - 1;bearing a 99 -99;bearing b - 99\n99;", 5);
            String ahead = "station a ";
            for (int k = 0; k < 2; k++) {
                int at = ahead.length();
                t.wrong(ahead + "100 1;", at, 2);
                t.wrong(ahead + "-100 1;", at + 1, 2);
                t.wrong(ahead + "1 100;", at + 2, 2);
                t.wrong(ahead + "1 -100;", at + 3, 2);
                t.wrong(ahead + "--1 1;", at + 1, 1);
                t.wrong(ahead + "- a 1;", at + 2, 1);
                t.wrong(ahead + "1 -;", at + 3, 1);
                ahead = "station a 0 0;bearing a ";
            }
            WaveRows x = t.right("station a -99 -98;station b 99 98;bearing a 99 98;bearing b 0 -99;", 4);
            t.is("just at the station of the other: through(0, 1)", x.through(0, 1), -1);
            WaveRows y = t.right("station a -9 8;station b 7 -6;bearing a 0 -1;bearing b -1 0;", 4);
            t.is("X of a", y.cross(0, 1, 0), -9);
            t.is("Y of b", y.cross(0, 1, 2), -6);
        });
    }

    private static void sender(Sentences s) {
        s.terms("Promise 4: field", "| 'sender' NAME D A [ 'drifts' V ] [ 'like' SENDER ]"
            + " (0 to N less 1; 1 to 999; 0 to N less 1, 0 without)", t -> {
            WaveRows x = t.right("sender a 0 1 drifts 0;sender b 11 999 drifts 11 like a;sender c 1 2 like b;", 3);
            int[] due = {0, 1, 0, 0, 11, 999, 11, 0, 1, 2, 0, 0};
            for (int i = 0; i < due.length; i++) {
                t.is("sender(" + i / 4 + ", " + i % 4 + ")", x.sender(i / 4, i % 4), due[i]);
            }
            t.is("without drifts and like: V", Due.of("sender a 0 1;").sender(0, 2), 0);
            t.wrong("sender a 12 1;", 9, 2);
            t.wrong("sender a 0 0;", 11, 2);
            t.wrong("sender a 0 1000;", 11, 1);
            t.wrong("sender a 0 1 drifts 12;", 20, 2);
            t.right("lattice 2;sender a 1 1 drifts 1;", 2);
            t.wrong("lattice 2;sender a 2 1;", 19, 2);
            t.wrong("lattice 2;sender a 1 1 drifts 2;", 30, 2);
            t.right("lattice 60;sender a 59 1 drifts 59;", 2);
            t.wrong("lattice 60;sender a 60 1;", 20, 2);
            t.wrong("lattice 60;sender a 59 1 drifts 60;", 32, 2);
            t.wrong("sender 0 1;", 7, 1);
            t.wrong("sender a;", 8, 1);
            t.wrong("sender a 0;", 10, 1);
            t.wrong("sender a 0 1 drifts;", 19, 1);
            t.wrong("sender a 0 1;sender b 0 1 like;", 30, 1);
            t.wrong("sender a 0 1;sender b 0 1 like a drifts 1;", 33, 1);
            t.wrong("sender a 0 1;sender b 0 1 like a like a;", 33, 1);
        });
    }

    private static void names(Sentences s) {
        s.terms("Promise 4: field", "NAME: a WORD, none of those told here; told once.", t -> {
            for (String word : "lattice hearer gain sender drifts like station bearing".split(" ")) {
                t.wrong("sender " + word + " 0 1;", 7, 1);
                t.wrong("station " + word + " 0 1;", 8, 1);
                t.wrong("sender a 0 1;sender b 0 1 like " + word + ";", 31, 1);
                t.wrong("station a 0 1;bearing " + word + " 0 1;", 22, 1);
                String less = word.substring(0, word.length() - 1);
                t.right("sender " + less + " 0 1;station x" + word.substring(1) + " 0 1;", 2);
            }
            t.wrong("sender a 0 1;sender a 0 1;", 20, 3);
            t.wrong("station a 0 1;station a 0 1;", 22, 3);
            t.wrong("sender a 0 1;station a 0 1;", 21, 3);
            t.wrong("station a 0 1;sender a 0 1;", 21, 3);
            // The last one that may be told, and the first ones.
            t.wrong(many("sender ? 0 1;", 5) + "sender e 0 1;", 72, 3);
            t.wrong(many("station ? 0 1;", 3) + "station c 0 1;", 50, 3);
            t.wrong(many("sender ? 0 1;", 6) + "station f 0 1;", 86, 3);
            t.wrong(many("station ? 0 1;", 4) + "sender d 0 1;", 63, 3);
        });
        s.terms("Promise 4: field", "10 HEARERS, 6 SENDERS, 4 STATIONS, 8 BEARINGS at most, numbered from 0 each.", t -> {
            WaveRows x = t.right(many("hearer 1*;", 10) + many("sender ? 1* 1;", 2).replace("b 11", "b 10")
                + many("station x? * 1;", 4) + many("bearing xa 1 *;", 8) + "sender c 5 1;sender d 6 1;sender e 7 1;"
                + "sender f 8 9;", 28);
            int[] due = {10, 6, 4, 8};
            for (int i = 0; i < due.length; i++) {
                t.is("count(" + (3 + i) + ")", x.count(3 + i), due[i]);
            }
            t.is("the first HEARER", x.hearer(0, 0), 10);
            t.is("the last HEARER", x.hearer(9, 0), 19);
            t.is("the first SENDER", x.sender(0, 0), 10);
            t.is("the last SENDER", x.sender(5, 1), 9);
            t.wrong(many("hearer 1*;", 10) + "hearer 5;", 100, 4);
            t.wrong(many("sender ? 1 1;", 6) + "sender g 1 1;", 78, 4);
            t.wrong(many("station ? 1 1;", 4) + "station e 1 1;", 56, 4);
            t.wrong("station a 1 1;" + many("bearing a 1 *;", 8) + "bearing a 1 1;", 126, 4);
        });
        s.terms("Promise 40: through", "numbered from 0 each.", t -> {
            WaveRows x = Due.of("station a 0 0;station b 10 0;bearing a 1 1;" + many("bearing a -1 -*;", 6)
                + "bearing b -1 1;");
            t.is("the first BEARING and the last: through(0, 7)", x.through(0, 7), 1 + 128);
            t.is("through(1, 7)", x.through(1, 7), -1);
        });
    }

    private static void faultsOfTokens(Sentences s) {
        s.terms("Promise 5: fault", "FAULTS, the first along the text, of one TOKEN the least:", t -> {
            t.wrong("hearer 100 gain 0;hearer .;", 7, 2);
            t.wrong("hearer 1;hearer 1 gain 0;", 16, 3);
            t.wrong("hearer 1 gain 0;hearer 1;", 14, 2);
            t.wrong("lattice 3;lattice 99;", 10, 3);
            t.wrong("lattice 99;lattice 3;", 8, 2);
            t.wrong(many("hearer 1*;", 10) + "hearer 10 gain 0.", 100, 4);
            t.wrong(many("hearer 1*;", 9) + "hearer 10;hearer 5;", 97, 3);
            t.wrong(many("sender ? 1 1;", 6) + "sender a 99 0;", 78, 4);
            t.wrong("station a 100 0;bearing z 0 0;", 10, 2);
            t.wrong("station a 0 0;bearing z 0 0;", 22, 3);
            // One TOKEN: a WORD that can't come as a NAME is also one not told.
            t.wrong("station a 0 0;bearing like 0 0;", 22, 1);
            t.wrong("sender a 0 1 like sender;", 18, 1);
        });
        s.terms("Promise 5: fault", "1 no TOKEN, or one that can't come (at it; the end: how many bytes there are;", t -> {
            t.wrong("#", 0, 1);
            t.wrong("  #", 2, 1);
            t.wrong("hearer #;", 7, 1);
            t.wrong("hearers 1;", 0, 1);
            t.wrong("gain 1;", 0, 1);
            t.wrong("drifts 1;", 0, 1);
            t.wrong("like a;", 0, 1);
            t.wrong("5;", 0, 1);
            t.wrong("hearer a;", 7, 1);
            t.wrong("hearer 1 like;", 9, 1);
            t.wrong("h", 0, 1);
            String line = "hearer 1 gain 2;station a -1 2;bearing a 1 1;sender b 0 1 drifts 1;sender c 0 1 like b;";
            for (int cut = 0; cut <= line.length(); cut++) {
                cutAt(t, line, cut);
            }
        });
        s.terms("Promise 5: fault", "900, if there are more and no FAULT is ahead: TOKENS that begin ahead of it are read whole);", t -> {
            t.wrong(padded("hearer 1;", 891, " "), 900, 1);
            t.wrong(padded("hearer 1;", 931, ""), 900, 1);
            t.wrong(padded("hearer", 893, "1;"), 900, 1);
            t.wrong(padded("hearer", 894, "1;"), 900, 1);
            t.wrong(padded("hearer 1;", 892, "#"), 900, 1);
            t.wrong(padded("hearer 1;", 891, "#"), 900, 1);
            t.wrong(padded("hearer 1;", 890, "#"), 899, 1);
            t.wrong(padded("hearer 1#", 900, ""), 8, 1);
            t.wrong(padded("hearer 1;", 890, ";;"), 899, 1);
            // Read whole: as a WORD, as none, as a NUMBER, as one too great, as none.
            t.wrong(padded("hearer 1;", 890, "hearer 2;"), 900, 1);
            t.wrong(padded("hearer 1;", 890, "hearers 2;"), 899, 1);
            t.wrong(padded("hearer 1;", 890, "hearer2;"), 899, 1);
            t.wrong(padded("hearer", 892, "99;"), 900, 1);
            t.wrong(padded("hearer", 893, "100;"), 899, 2);
            t.wrong(padded("hearer", 893, "1000;"), 899, 1);
            t.wrong(padded("hearer 1;", 890, "a".repeat(41)), 899, 1);
            t.wrong(padded("hearer 1;", 891, "a".repeat(40)), 900, 1);
            t.wrong(padded("lattice 4;", 889, "lattice 5;"), 899, 3);
            t.wrong(padded(many("hearer 1*;", 10), 799, "hearer 1;"), 899, 4);
            t.wrong(padded(many("hearer 1*;", 10), 800, "hearer 1;"), 900, 1);
            t.wrong(padded("sender abcdefg 0 1;sender b 0 1 like", 863, "abcdefg;"), 900, 1);
            t.wrong(padded("sender abcdefg 0 1;sender b 0 1 like", 863, "abcdefh;"), 899, 3);
        });
    }

    /** A text cut off: at fault at its end, or at its last TOKEN, if that is then another one. */
    private static void cutAt(Sentences t, String line, int cut) {
        String text = line.substring(0, cut);
        String last = text.replaceFirst("(?s).*[^a-z]", "");
        boolean keyword = last.matches("hearer|gain|station|bearing|sender|drifts|like|");
        boolean name = text.endsWith(" " + last) && text.matches("(?s).*(station|bearing|sender|like) [a-z]");
        if (text.isEmpty() || text.endsWith(";")) {
            t.right(text, text.length() - text.replace(";", "").length());
        } else if (keyword || name) {
            t.wrong(text, cut, 1);
        } else {
            t.wrong(text, cut - last.length(), 1);
        }
    }

    private static void faultsOfNumbersAndNames(Sentences s) {
        s.terms("Promise 5: fault", "2 a NUMBER that is not as told (at it; both 0: at the second one);", t -> {
            t.wrong("lattice 1;", 8, 2);
            t.wrong("lattice\n 61;", 9, 2);
            t.wrong("hearer 100", 7, 2);
            t.wrong("hearer 1 gain 000;", 14, 2);
            t.wrong("sender a 12 1;", 9, 2);
            t.wrong("sender a 0 0;", 11, 2);
            t.wrong("sender a 0 1 drifts 12;", 20, 2);
            t.wrong("station a 100 0;", 10, 2);
            t.wrong("station a - 100 0;", 12, 2);
            t.wrong("station a 0 100;", 12, 2);
            t.wrong("station a 0 0;bearing a 100 0;", 24, 2);
            t.wrong("station a 0 0;bearing a 0 100;", 26, 2);
            t.wrong("station a 0 0;bearing a 0 0;", 26, 2);
            t.wrong("station a 0 0;bearing a 0 000", 26, 2);
            t.wrong("station a 0 0;bearing a -0 - 0;", 29, 2);
        });
        s.terms("Promise 5: fault", "3 a NAME told twice, not told, or of another sort, a PLACE told twice (at it),", t -> {
            t.wrong("sender a 0 1;sender a", 20, 3);
            t.wrong("sender a 0 1;station a", 21, 3);
            t.wrong("sender a 0 1 like b;", 18, 3);
            t.wrong("sender a 0 1 like a;", 18, 3);
            t.wrong("sender a 0 1 like b;sender b 0 1;", 18, 3);
            t.wrong("station b 0 0;sender a 0 1 like b;", 32, 3);
            t.wrong("bearing b 1 1;", 8, 3);
            t.wrong("bearing b 1 1;station b 0 0;", 8, 3);
            t.wrong("sender b 0 1;bearing b 1 1;", 21, 3);
            t.wrong("sender ab 0 1;sender b 0 1 like a;", 32, 3);
            t.wrong("hearer 5;hearer 05;", 16, 3);
        });
        s.terms("Promise 5: fault", "lattice told twice or behind a sender (at its WORD);", t -> {
            t.wrong("lattice 5; lattice 5;", 11, 3);
            t.wrong("lattice 5;hearer 1;lattice", 19, 3);
            t.wrong("lattice 12;lattice 12;", 11, 3);
            t.wrong("sender a 0 1;\nlattice 12;", 14, 3);
            t.wrong("lattice 5;sender a 0 1;lattice 5;", 23, 3);
            t.wrong("sender a 0 1;lattice .", 13, 3);
        });
        s.terms("Promise 5: fault", "4 an 11th HEARER, a seventh SENDER, a fifth STATION, a ninth BEARING (at the LINE's first WORD).", t -> {
            t.wrong(many("hearer 1*;", 10) + " hearer 1;", 101, 4);
            t.wrong(many("hearer 1*;", 10) + "hearer", 100, 4);
            t.wrong(many("sender ? 1 1;", 6) + "\nsender g 1 1;", 79, 4);
            t.wrong(many("sender ? 1 1;", 6) + "sender sender", 78, 4);
            t.wrong(many("station ? 1 1;", 4) + " station e 1 1;", 57, 4);
            t.wrong(many("station ? 1 1;", 4) + "station a 100 1;", 56, 4);
            t.wrong("station a 1 1;" + many("bearing a 1 *;", 8) + " bearing a 1 1;", 127, 4);
            t.wrong("station a 1 1;" + many("bearing a 1 *;", 8) + "bearing z 0 0;", 126, 4);
        });
    }

    private static void newObject(Sentences s) {
        s.says("Promise 1: A new object", "A FIELD by 12 DIRECTIONS, nothing else; an empty tape.", t -> {
            WaveRows x = new WaveRows();
            int[] due = {12, 1009, ByHand.root(12), 0, 0, 0, 0, 0, 0, -1};
            for (int what = 0; what < due.length; what++) {
                t.is("count(" + what + ")", x.count(what), due[what]);
            }
            t.noSuch("hearer(0, 0)", () -> x.hearer(0, 0));
            t.noSuch("sender(0, 0)", () -> x.sender(0, 0));
            t.noSuch("cross(0, 0, 0)", () -> x.cross(0, 0, 0));
            t.is("wave(11, 1)", x.wave(11, 1), ByHand.wave(12, 11, 1));
            t.is("wave(12, 1)", x.wave(12, 1), -1);
            t.is("end(0)", x.end(0), true);
            t.is("end(1)", x.end(1), false);
            t.is("two objects are two", x.feed(0, 0, 0, 0, 0) == 20 && new WaveRows().count(8) == 0, true);
        });
    }

    private static void feed(Sentences s) {
        String feed = "Promise 2: feed";
        s.says(feed, "Twenty bytes come behind the tape, of each number the highest first: how many it has;", t -> {
            WaveRows x = new WaveRows();
            // "hear" "er 7" " gai" "n 99" "9;he", then "arer" " 8;  ".
            t.is("feed", x.feed(0x68656172, 0x65722037, 0x20676169, 0x6e203939, 0x393b6865), 20);
            t.is("feed", x.feed(0x61726572, 0x20383b20, 0x20202020, 0x20202020, 0x20202020), 40);
            t.is("field()", x.field(), 2);
            t.is("hearer(0, 1)", x.hearer(0, 1), 999);
            t.is("hearer(1, 0)", x.hearer(1, 0), 8);
            // Bytes above 127, by which a number is below 0, come as they are.
            WaveRows y = Due.of("lattice 60;hearer 0;");
            y.feed(0xffff8000, 0, 0, 0, 0);
            y.end(2);
            t.is("tracks(0) of 65535", y.tracks(0) == 3600 && y.track(2) == 65535 % y.count(1), true);
            y.feed(0xff80fe7f, 0, 0, 0, 0);
            y.end(2);
            t.is("tracks(0) of 65408", y.tracks(0) == 3600 && y.track(2) == 65408 % y.count(1), true);
            t.is("behind 3 bytes", y.feed(0, 0, 0, 0, 0) == 20 && y.end(3) && y.feed(0, 0, 0, 0, 0) == 23, true);
        });
        s.says(feed, "NONE, and none come, if it would have more than 940.", t -> {
            WaveRows x = new WaveRows();
            for (int times = 1; times <= 46; times++) {
                t.is("feed " + times, x.feed(0x20202020, 0x20202020, 0x20202020, 0x20202020, 0x20202020), 20 * times);
            }
            t.is("feed 47, to 940", x.feed(0x20202020, 0x20202020, 0x20202020, 0x20202020, 0x20202020), 940);
            t.is("feed 48", x.feed(1, 1, 1, 1, 1), -1);
            t.is("none came", x.count(8), 940);
            x.end(921);
            t.is("feed behind 921", x.feed(0x23232323, 0, 0, 0, 0), -1);
            t.is("none came behind 921", x.count(8), 921);
            x.end(920);
            t.is("feed behind 920", x.feed(0, 0, 0, 0, 0), 940);
            x.end(880);
            t.is("nothing of those refused is read", x.field(), 0);
        });
    }

    private static void end(Sentences s) {
        String end = "Promise 3: end";
        s.says(end, "The tape has its first n bytes alone: true;", t -> {
            WaveRows x = new WaveRows();
            t.is("end(0) of none", x.end(0), true);
            Due.text(x, "hearer 1;hearer 2;hearer 3;");
            t.is("end(27), of all", x.end(27), true);
            t.is("all are there", x.count(8), 27);
            t.is("end(18)", x.end(18), true);
            t.is("the first 18", x.count(8), 18);
            t.is("those that went don't come back", x.end(19), false);
            t.is("field()", x.field(), 2);
            t.is("the last of the first", x.hearer(1, 0), 2);
            Due.text(x, "hearer 1;");
            t.is("end(0)", x.end(0), true);
            t.is("nothing is left", x.count(8), 0);
            t.is("a field of nothing", x.field(), 0);
        });
        s.says(end, "false, if it has not so many, or n is below 0.", t -> {
            WaveRows x = new WaveRows();
            t.is("end(1) of none", x.end(1), false);
            Due.text(x, "hearer 1;");
            for (int n : new int[] {10, 20, 900, 940, 941, Integer.MAX_VALUE, -1, -9, Integer.MIN_VALUE}) {
                t.is("end(" + n + ")", x.end(n), false);
                t.is("the tape stays", x.count(8), 9);
            }
            t.is("field()", x.field(), 1);
        });
    }

    private static void field(Sentences s) {
        String field = "Promise 4: field";
        s.says(field, "The tape (empty then, here and below, whatever is answered) is the FIELD now, at moment 0: how many LINES;", t -> {
            WaveRows x = new WaveRows();
            Due.text(x, "lattice 5;hearer 7 gain 3;sender a 4 2 drifts 1 ;station b 1 2;bearing b 0 - 1;");
            x.moment(999);
            t.is("field()", x.field(), 5);
            t.is("the tape", x.count(8), 0);
            t.is("the moment", x.count(7), 0);
            t.is("N", x.count(0), 5);
            t.is("the direction at moment 0", x.sender(0, 0), 4);
            Due.text(x, "hearer 7");
            t.is("with a fault", x.field() < 0, true);
            t.is("the tape, with a fault", x.count(8), 0);
            // Nothing is left of the old FIELD, nor of the one at fault.
            t.is("another", Due.told(x, "hearer 9;"), 1);
            int[] due = {12, 1009, ByHand.root(12), 1, 0, 0, 0, 0, 0};
            for (int what = 0; what < due.length; what++) {
                t.is("another: count(" + what + ")", x.count(what), due[what]);
            }
            t.is("another: its gain", x.hearer(0, 1), 1);
            oneFieldAfterAnother(t);
            t.is("of no bytes", x.field(), 0);
            t.is("of no bytes: hearers", x.count(3), 0);
        });
        s.says(field, "-1 less the place of a FAULT: the FIELD stays.", t -> {
            WaveRows x = Due.of("lattice 5;hearer 7 gain 3;sender a 4 2 drifts 1;station b 1 2;station c 5 2;"
                + "bearing b 1 1;bearing c -1 1;");
            x.moment(7);
            String ahead = State.of(x);
            t.is("a fault at 0", Due.told(x, "."), -1);
            t.is("a fault at 32", Due.told(x, "lattice 6;hearer 9;sender a 5 1;hea"), -33);
            t.is("a fault at 900", Due.told(x, padded("lattice 6;hearer 9;sender b 5 3 drifts 5;station x 0 0;"
                + "bearing x 1 0;", 901 - 69, "")), -901);
            t.same("the FIELD stays, and its moment", State.of(x), ahead.replace("fault 0", "fault 1"));
        });
    }

    /** Full ones and bare ones by turns: nothing of any comes back, and names are free again. */
    private static void oneFieldAfterAnother(Sentences t) {
        WaveRows x = new WaveRows();
        String full = "lattice 60;hearer 1 gain 9;hearer 2 gain 8;sender a 59 3 drifts 2;sender b 1 1 like a;station c 0 0;"
            + "station d 10 0;bearing c 1 1;bearing d -1 1;bearing d -2 1;";
        int[] bare = {12, 1009, ByHand.root(12), 0, 0, 0, 0};
        int[] whole = {60, 1021, ByHand.root(60), 2, 2, 2, 3};
        int[] due = bare;
        String[] texts = {full, full, "", "", full, full + ".", "", full + ".", "", full};
        for (String text : texts) {
            int lines = text.equals(full) ? 10 : text.isEmpty() ? 0 : -1 - full.length();
            t.is("field() of \"" + text + "\"", Due.told(x, text), lines);
            if (lines >= 0) {
                due = lines == 0 ? bare : whole;
            }
            for (int what = 0; what < due.length; what++) {
                t.is("then: count(" + what + ")", x.count(what), due[what]);
            }
        }
        Due.told(x, full.replace("bearing d -2 1;", ""));
        Due.told(x, full);
        Due.told(x, "hearer 5;sender b 1 1;sender a 1 1;station d 0 0;station c 10 0;bearing d 1 1;bearing c -1 1;");
        t.is("unlike now: sender(1, 3)", x.sender(1, 3), 1);
        t.is("no drift now: sender(1, 2)", x.sender(1, 2), 0);
        t.is("no such bearing now: through(0, 2)", x.through(0, 2), -1);
        t.noSuch("no such bearing now: cross(0, 2, 0)", () -> x.cross(0, 2, 0));
        t.is("no such hearer now: reading(1)", x.reading(1), -1);
        t.is("no such hearer now: order()", x.order(), 1);
    }

    private static void fault(Sentences s) {
        s.says("Promise 5: fault", "The kind of the FAULT of the latest field(); 0 without one and ahead of any.", t -> {
            WaveRows x = new WaveRows();
            t.is("ahead of any", x.fault(), 0);
            String[] texts = {"hearer", "hearer 100;", "sender a 1 1 like a;", many("hearer 1*;", 10) + "hearer 1;"};
            for (int kind = 1; kind <= 4; kind++) {
                Due.told(x, texts[kind - 1]);
                t.is("of kind " + kind, x.fault(), kind);
                t.is("asked again", x.fault(), kind);
                x.moment(1);
                Due.text(x, "hearer 100;");
                t.is("ahead of the next field()", x.fault(), kind);
                Due.told(x, "hearer 1;");
                t.is("without one", x.fault(), 0);
            }
            Due.told(x, ".");
            t.is("a fault", x.fault(), 1);
            t.is("no bytes", x.field(), 0);
            t.is("without one, of no bytes", x.fault(), 0);
        });
    }

    private static void count(Sentences s) {
        String count = "Promise 43: count";
        s.says(count, "0 N, 1 P, 2 W, 3 HEARERS, 4 SENDERS, 5 STATIONS, 6 BEARINGS, 7 the moment, 8 bytes of the tape.", t -> {
            WaveRows x = Due.of("lattice 4;hearer 0;hearer 3;hearer 9;sender a 1 1;sender b 1 1;station c 0 0;"
                + "station d 0 0;station e 0 0;station f 0 0;bearing c 1 1;");
            x.moment(999);
            x.feed(0, 0, 0, 0, 0);
            int[] due = {4, 1009, 469, 3, 2, 4, 1, 999, 20};
            for (int what = 0; what < due.length; what++) {
                t.is("count(" + what + ")", x.count(what), due[what]);
            }
            x.lose(0);
            t.is("with one lost: count(3)", x.count(3), 2);
            x.end(7);
            t.is("of 7 bytes: count(8)", x.count(8), 7);
        });
        s.says(count, "NONE for another what.", t -> {
            for (int what : new int[] {-1, 9, 10, Integer.MIN_VALUE, Integer.MAX_VALUE}) {
                t.is("count(" + what + ")", new WaveRows().count(what), -1);
            }
        });
    }
}

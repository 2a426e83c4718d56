/** The sentences of what is kept in an image, and what stays when it is restored: promises 41 and 42. */
final class ImageSentences {
    private static final String FIELD = "lattice 4;hearer 0 gain 2;hearer 1;hearer 2;sender a 1 7 drifts 1;sender b 3 9 "
        + "like a;station s 1 2;station t 5 2;bearing s 1 1;bearing t -1 1;";
    private static final int[] FAR = {-1, 2, 3, Integer.MIN_VALUE, Integer.MAX_VALUE};

    private ImageSentences() {
    }

    static void all(Sentences s) {
        image(s);
        restore(s);
    }

    private static void image(Sentences s) {
        String image = "Promise 41: image";
        s.says(image, "FIELD (with GAINS mended, without HEARERS lost) and moment are kept in place k (0, 1): true;", t -> {
            WaveRows x = Due.of(FIELD);
            Due.readings(x, 2, 3, 0);
            x.mend(0);
            x.lose(0);
            x.moment(5);
            t.is("image(0)", x.image(0), true);
            String kept = State.of(x);
            Due.told(x, "lattice 5;hearer 9;hearer 8;hearer 7;station z 9 9;sender a 4 1;sender b 2 2;sender c 1 1;"
                + "bearing z 1 0;");
            x.moment(2);
            t.is("image(1)", x.image(1), true);
            String other = State.of(x);
            // What comes later does not reach what is kept.
            x.lose(0);
            x.moment(3);
            t.is("restore(0)", x.restore(0), true);
            t.same("place 0", State.of(x), kept);
            t.is("restore(1)", x.restore(1), true);
            t.same("place 1", State.of(x), other);
        });
        s.says(image, "are kept in place k (0, 1)", t -> {
            WaveRows x = Due.of("hearer 5;hearer 6;");
            x.image(0);
            x.image(1);
            x.lose(0);
            Due.readings(x, 1);
            x.mend(0);
            x.moment(9);
            t.is("image(1), anew", x.image(1), true);
            x.restore(0);
            t.is("place 0: hearers", x.count(3), 2);
            t.is("place 0: moment", x.count(7), 0);
            x.restore(1);
            t.is("place 1, anew: hearers", x.count(3), 1);
            t.is("place 1, anew: moment", x.count(7), 9);
            x.moment(1);
            x.restore(1);
            t.is("place 1, once more: moment", x.count(7), 9);
            WaveRows mended = Due.of("hearer 0 gain 5;hearer 1;");
            Due.readings(mended, 1, 0);
            mended.mend(0);
            mended.image(1);
            Due.readings(mended, 1, 1);
            mended.mend(0);
            t.is("mended anew", mended.hearer(1, 1), 5);
            mended.restore(1);
            t.is("as it was kept", mended.hearer(1, 1), 0);
        });
        s.says(image, "false: no such one.", t -> {
            WaveRows x = new WaveRows();
            for (int k : FAR) {
                t.is("image(" + k + ")", x.image(k), false);
                t.is("restore(" + k + ")", x.restore(k), false);
            }
            t.is("nothing is kept: restore(0)", x.restore(0), false);
            t.is("nothing is kept: restore(1)", x.restore(1), false);
        });
    }

    private static void restore(Sentences s) {
        String restore = "Promise 42: restore";
        s.says(restore, "They are as kept in place k (the tape, and what other calls told last, stays): true;", t -> {
            WaveRows x = Due.of(FIELD);
            x.moment(6);
            x.image(0);
            Due.told(x, "lattice 5;hearer 3;hearer 4;sender z 1 1;station z 0 0;bearing z 1 0;");
            t.is("restore(0)", x.restore(0), true);
            int[] due = {4, 1009, 469, 3, 2, 2, 2, 6, 0};
            for (int what = 0; what < due.length; what++) {
                t.is("count(" + what + ")", x.count(what), due[what]);
            }
            t.is("hearer(0, 1)", x.hearer(0, 1), 2);
            t.is("sender(0, 0)", x.sender(0, 0), 3);
            t.is("sender(1, 3)", x.sender(1, 3), 0);
            t.is("wave(3, 1)", x.wave(3, 1), 540);
            t.is("cross(0, 1, 0)", x.cross(0, 1, 0), 3);
        });
        s.says(restore, "(the tape, and what other calls told last, stays)", t -> {
            WaveRows x = Due.of("lattice 4;hearer 0;");
            x.image(0);
            Due.told(x, FIELD.replace("like a", ""));
            x.rule(1);
            Due.readings(x, 7);
            x.tracks(0);
            Due.readings(x, 2, 1, 1);
            x.fewest();
            Due.readings(x, 2, 1, 5);
            x.liars(1);
            Due.tape(x, 1, 3);
            x.nulled();
            x.fix();
            Due.told(x, "hearer 100;");
            x.feed(1, 2, 3, 4, 5);
            String told = later(x);
            t.is("restore(0)", x.restore(0), true);
            t.same("what was told", later(x), told);
            t.is("the hearers", x.count(3), 1);
            // The tape holds its bytes still.
            x.end(0);
            Due.text(x, "hearer 7;");
            x.restore(0);
            t.is("the tape", x.field(), 1);
            t.is("the tape's field", x.hearer(0, 0), 7);
        });
        s.says(restore, "false: no such one, or nothing is kept there.", t -> {
            WaveRows x = Due.of("hearer 5;");
            t.is("nothing kept: restore(0)", x.restore(0), false);
            t.is("nothing kept: restore(1)", x.restore(1), false);
            x.image(1);
            t.is("nothing kept in the other: restore(0)", x.restore(0), false);
            x.moment(4);
            for (int k : FAR) {
                t.is("restore(" + k + ")", x.restore(k), false);
            }
            t.is("nothing came back", x.count(7), 4);
            t.is("kept: restore(1)", x.restore(1), true);
            t.is("it came back", x.count(7), 0);
        });
    }

    /** What calls told last, and how much the tape has. */
    private static String later(WaveRows x) {
        String all = State.of(x);
        return x.count(8) + all.substring(all.indexOf("fault"), all.indexOf(';', all.indexOf("fault")))
            + all.substring(all.indexOf("roots"), all.indexOf("comes")) + all.substring(all.indexOf("fixAt"));
    }
}

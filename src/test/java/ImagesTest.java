/** Promises 41 and 42: what is kept in an image, and what stays when it is restored. */
public final class ImagesTest {
    private static final Due DUE = new Due();

    public static void main(String[] args) {
        places();
        whatIsKept();
        imagesStandAlone();
        whatStays();
        DUE.close("ImagesTest");
    }

    private static void places() {
        WaveRows x = new WaveRows();
        for (int k : new int[] {-1, 2, Integer.MIN_VALUE, Integer.MAX_VALUE}) {
            DUE.is("image(" + k + ")", x.image(k), false);
            DUE.is("restore(" + k + ")", x.restore(k), false);
        }
        DUE.is("nothing kept: restore(0)", x.restore(0), false);
        DUE.is("nothing kept: restore(1)", x.restore(1), false);
        DUE.is("image(1)", x.image(1), true);
        DUE.is("the other: restore(0)", x.restore(0), false);
        DUE.is("restore(1)", x.restore(1), true);
        DUE.is("restore(1) again", x.restore(1), true);
    }

    private static final String FIELD = "lattice 4;hearer 0 gain 2;hearer 1;hearer 2;sender a 1 7 drifts 1;sender b 3 9 "
        + "like a;station s 1 2;station t 5 2;bearing s 1 1;bearing t -1 1;";

    private static void whatIsKept() {
        WaveRows x = Due.of(FIELD);
        Due.readings(x, 2, 3, 4);
        x.mend(0);
        x.lose(2);
        x.moment(5);
        x.image(0);
        Due.told(x, "lattice 5;hearer 9;station z 9 9;");
        x.image(1);
        DUE.is("restore(0)", x.restore(0), true);
        int[] due = {4, 1009, 469, 2, 2, 2, 2, 5, 0};
        for (int what = 0; what < due.length; what++) {
            DUE.is("restored: count(" + what + ")", x.count(what), due[what]);
        }
        DUE.is("restored: hearer(0, 1)", x.hearer(0, 1), 2);
        DUE.is("restored: hearer(1, 0)", x.hearer(1, 0), 1);
        DUE.is("restored: hearer(1, 1)", x.hearer(1, 1), 3);
        DUE.is("restored: sender(0, 0)", x.sender(0, 0), 2);
        DUE.is("restored: sender(0, 2)", x.sender(0, 2), 1);
        DUE.is("restored: sender(1, 1)", x.sender(1, 1), 9);
        DUE.is("restored: sender(1, 3)", x.sender(1, 3), 0);
        DUE.is("restored: wave(1, 1)", x.wave(1, 1), 469);
        DUE.is("restored: cross(0, 1, 0)", x.cross(0, 1, 0), 3);
        DUE.is("restored: cross(0, 1, 2)", x.cross(0, 1, 2), 4);
        DUE.is("restore(1)", x.restore(1), true);
        DUE.is("the other: count(0)", x.count(0), 5);
        DUE.is("the other: count(1)", x.count(1), 1021);
        DUE.is("the other: count(7)", x.count(7), 0);
        DUE.is("the other: hearer(0, 0)", x.hearer(0, 0), 9);
        flocks();
    }

    private static void flocks() {
        WaveRows x = Due.of("sender a 1 1;sender b 1 1;sender c 1 1 like b;sender d 1 1 like c;");
        x.image(0);
        Due.told(x, "sender a 1 1;sender b 1 1 like a;sender c 1 1;sender d 1 1;");
        x.restore(0);
        int[] due = {0, 1, 1, 1};
        for (int s = 0; s < due.length; s++) {
            DUE.is("restored: sender(" + s + ", 3)", x.sender(s, 3), due[s]);
        }
    }

    /** What goes on after does not reach what is kept, nor the other way. */
    private static void imagesStandAlone() {
        WaveRows x = Due.of(FIELD);
        x.image(0);
        x.image(1);
        Due.readings(x, 1, 1, 1);
        x.mend(0);
        x.lose(0);
        x.moment(9);
        x.restore(0);
        DUE.is("kept: hearers", x.count(3), 3);
        DUE.is("kept: gain", x.hearer(1, 1), 1);
        DUE.is("kept: moment", x.count(7), 0);
        x.lose(1);
        x.image(0);
        x.restore(1);
        DUE.is("the other is as it was", x.count(3), 3);
        x.restore(0);
        DUE.is("kept anew", x.count(3), 2);
        DUE.is("kept anew: place", x.hearer(1, 0), 2);
        Due.told(x, "hearer 77;");
        x.restore(0);
        DUE.is("after another field", x.hearer(1, 0), 2);
    }

    private static void whatStays() {
        WaveRows x = Due.of(FIELD);
        x.image(0);
        Due.told(x, "hearer");
        x.rule(1);
        int rule = x.ruleAt(1);
        x.fix();
        Due.tape(x, 1);
        DUE.is("nulled", x.nulled(), true);
        x.feed(0, 0, 0, 0, 0);
        x.restore(0);
        DUE.is("the tape stays", x.count(8), 20);
        DUE.is("the fault stays", x.fault(), 1);
        DUE.is("the rule stays", x.ruleAt(1), rule);
        DUE.is("the fix stays", x.fixAt(0), 1);
        DUE.is("the nulled numbers stay", x.number(0), 505);
        DUE.is("image takes no tape: image(1)", x.image(1) && x.count(8) == 20, true);
    }
}

import java.util.ArrayList;
import java.util.List;
import java.util.Random;

/** Texts of fields by chance, from a seed: right ones, and such as go wrong somewhere. */
final class Texts {
    private final Random chance;

    Texts(Random chance) {
        this.chance = chance;
    }

    private int upTo(int most) {
        return chance.nextInt(most + 1);
    }

    private boolean oneIn(int n) {
        return chance.nextInt(n) == 0;
    }

    /** Tokens of a right field. */
    List<String> right() {
        List<String> out = new ArrayList<>();
        int n = 12;
        if (!oneIn(4)) {
            n = oneIn(6) ? 2 + upTo(58) : 2 + upTo(10);
            add(out, "lattice", n, ";");
        }
        hearers(out);
        senders(out, n);
        if (oneIn(4)) {
            bearings(out);
        } else if (!oneIn(3)) {
            aimed(out);
        }
        return out;
    }

    private static void add(List<String> out, Object... tokens) {
        for (Object token : tokens) {
            out.add(String.valueOf(token));
        }
    }

    private void hearers(List<String> out) {
        int many = oneIn(8) ? 0 : oneIn(6) ? 10 : upTo(6);
        int step = oneIn(3) ? 1 + upTo(5) : 1;
        boolean wild = oneIn(3);
        int from = upTo(5);
        List<Integer> places = new ArrayList<>();
        for (int h = 0; h < many; h++) {
            int place = wild ? upTo(oneIn(2) ? 99 : 12) : from + h * step;
            if (!places.contains(place)) {
                places.add(place);
                add(out, "hearer", place);
                if (oneIn(3)) {
                    add(out, "gain", 1 + upTo(998));
                }
                add(out, ";");
            }
        }
    }

    private void senders(List<String> out, int n) {
        int many = oneIn(6) ? 6 : upTo(4);
        for (int s = 0; s < many; s++) {
            add(out, "sender", "s" + (char) ('a' + s), upTo(n - 1), 1 + upTo(oneIn(2) ? 998 : 9));
            if (oneIn(3)) {
                add(out, "drifts", upTo(n - 1));
            }
            if (s > 0 && oneIn(3)) {
                add(out, "like", "s" + (char) ('a' + upTo(s - 1)));
            }
            add(out, ";");
        }
    }

    private void signed(List<String> out, int most) {
        number(out, oneIn(2) ? -upTo(most) : upTo(most));
    }

    private static void number(List<String> out, int value) {
        if (value < 0) {
            add(out, "-");
        }
        add(out, Math.abs(value));
    }

    /** Bearings that go to a few points, so that many cross, several of them in one point. */
    private void aimed(List<String> out) {
        int stations = 2 + upTo(2);
        int[] x = new int[stations];
        int[] y = new int[stations];
        for (int s = 0; s < stations; s++) {
            x[s] = upTo(8) - 4;
            y[s] = upTo(8) - 4;
            add(out, "station", "t" + (char) ('a' + s));
            number(out, x[s]);
            number(out, y[s]);
            add(out, ";");
        }
        int points = 1 + upTo(4);
        int[] toX = new int[points];
        int[] toY = new int[points];
        for (int i = 0; i < points; i++) {
            toX[i] = upTo(8) - 4;
            toY[i] = upTo(8) - 4;
        }
        int many = oneIn(2) ? 8 : 2 + upTo(5);
        for (int b = 0; b < many; b++) {
            int s = upTo(stations - 1);
            int i = upTo(points - 1);
            int dx = toX[i] - x[s];
            int dy = toY[i] - y[s];
            int times = oneIn(3) ? 2 + upTo(3) : 1;
            if (dx != 0 || dy != 0) {
                add(out, "bearing", "t" + (char) ('a' + s));
                number(out, dx * times);
                number(out, dy * times);
                add(out, ";");
            }
        }
    }

    private void bearings(List<String> out) {
        int most = oneIn(5) ? 99 : 1 + upTo(4);
        int stations = 1 + upTo(3);
        for (int s = 0; s < stations; s++) {
            add(out, "station", "t" + (char) ('a' + s));
            signed(out, most);
            signed(out, most);
            add(out, ";");
        }
        int many = oneIn(5) ? 8 : upTo(6);
        for (int b = 0; b < many; b++) {
            add(out, "bearing", "t" + (char) ('a' + upTo(stations - 1)));
            if (oneIn(2)) {
                signed(out, most);
                add(out, 1 + upTo(most - 1));
            } else {
                add(out, 1 + upTo(most - 1));
                signed(out, most);
            }
            add(out, ";");
        }
    }

    private static final String[] ANY = {"lattice", "hearer", "gain", "sender", "drifts", "like", "station", "bearing",
        ";", ";", "-", ".", "0", "1", "00", "007", "60", "61", "99", "100", "999", "0000", "1000", "sa", "sb", "ta", "tb",
        "abcdefg", "abcdefgh", "a1", "1a", "gain5", "5gain", "sa1", "A", "\u00e9", "\t", "\r", "\0", ",", "--", "-1", "", "new", "x"};

    /** One token or two of it taken out, put in, or another one. */
    List<String> spoiled() {
        List<String> out = right();
        int times = 1 + upTo(1);
        for (int i = 0; i < times; i++) {
            if (oneIn(2)) {
                misuse(out);
                continue;
            }
            String any = ANY[chance.nextInt(ANY.length)];
            int at = upTo(out.size());
            int what = chance.nextInt(5);
            if (what == 0 || at == out.size()) {
                out.add(at, any);
            } else if (what == 1) {
                out.remove(at);
            } else if (what == 2) {
                int end = Math.min(out.size(), at + 1 + upTo(6));
                out.addAll(upTo(out.size()), new ArrayList<>(out.subList(at, end)));
            } else if (what == 3) {
                out = new ArrayList<>(out.subList(0, at));
            } else {
                out.set(at, any);
            }
        }
        return out;
    }

    /** Puts another number or name in the place of one. */
    private void misuse(List<String> out) {
        for (int tries = 0; tries < 20 && !out.isEmpty(); tries++) {
            int at = upTo(out.size() - 1);
            String token = out.get(at);
            if (Character.isDigit(token.isEmpty() ? ' ' : token.charAt(0))) {
                out.set(at, String.valueOf(oneIn(3) ? 0 : upTo(oneIn(2) ? 999 : 110)));
                return;
            }
            if (token.length() == 2) {
                out.set(at, (oneIn(2) ? "s" : "t") + (char) ('a' + upTo(4)));
                return;
            }
        }
    }

    /** Many lines of one sort. */
    List<String> crowded() {
        List<String> out = new ArrayList<>();
        int sort = upTo(3);
        add(out, "station", "ta", 0, 0, ";");
        for (int i = 0; i < 12; i++) {
            if (sort == 0) {
                add(out, "hearer", 90 - i, ";");
            } else if (sort == 1) {
                add(out, "sender", "s" + (char) ('a' + i), 1, 1, ";");
            } else if (sort == 2) {
                add(out, "station", "u" + (char) ('a' + i), 1, 1, ";");
            } else {
                add(out, "bearing", "ta", 1, 1, ";");
            }
        }
        return out;
    }

    String text() {
        return spaced(oneIn(20) ? crowded() : oneIn(2) ? right() : spoiled(), oneIn(12));
    }

    String rightText() {
        return spaced(right(), false);
    }

    private String spaced(List<String> tokens, boolean wide) {
        StringBuilder text = new StringBuilder();
        String last = ";";
        for (String token : tokens) {
            boolean apart = needsBlank(last, token) || oneIn(wide ? 1 : 5);
            for (int i = 0; apart && i < (wide ? 1 + upTo(12) : 1); i++) {
                text.append(oneIn(4) ? '\n' : ' ');
            }
            text.append(token);
            last = token.isEmpty() ? last : token;
        }
        for (int i = wide && oneIn(3) ? upTo(300) : upTo(1); i > 0; i--) {
            text.append(' ');
        }
        return text.length() > 940 ? text.substring(0, 900 + upTo(40)) : text.toString();
    }

    private static boolean needsBlank(String last, String token) {
        return !token.isEmpty() && Character.isLetterOrDigit(last.charAt(last.length() - 1))
            && Character.isLetterOrDigit(token.charAt(0));
    }
}

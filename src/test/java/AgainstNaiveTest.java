import java.lang.reflect.InvocationTargetException;
import java.lang.reflect.Method;
import java.util.ArrayList;
import java.util.Arrays;
import java.util.List;
import java.util.Map;
import java.util.Random;
import java.util.TreeMap;

/** Runs of calls by chance, from seeds told here, on the program and on the naive telling of the document. */
public final class AgainstNaiveTest {
    private static final int RUNS = 1800;
    private static final int STEPS = 120;
    // An object is used for 512 calls at most, and a step takes some 110 of them at most.
    private static final int LAST_STEP_BEGINS = 400;

    // With -Dhistogram=true: how often each call was due to answer what, to see what the runs reach.
    private static final boolean HISTOGRAM = Boolean.getBoolean("histogram");
    private static final Map<String, Integer> SEEN = new TreeMap<>();

    private static int wrong = 0;
    private static long calls = 0;
    private static int most = 0;

    private final Random chance;
    private final Texts texts;
    private final WaveRows program = new WaveRows();
    private final Naive naive = new Naive();
    private final StringBuilder told = new StringBuilder();
    private final int seed;
    private boolean apart = false;
    private int made = 0;

    private AgainstNaiveTest(int seed) {
        this.seed = seed;
        chance = new Random(seed);
        texts = new Texts(chance);
    }

    public static void main(String[] args) {
        int from = args.length > 0 ? Integer.parseInt(args[0]) : 0;
        int runs = args.length > 1 ? Integer.parseInt(args[1]) : RUNS;
        for (int seed = from; seed < from + runs && wrong < 10; seed++) {
            AgainstNaiveTest run = new AgainstNaiveTest(seed);
            run.goOn();
            most = Math.max(most, run.made);
        }
        System.out.println("at most " + most + " calls of an object");
        SEEN.forEach((answer, times) -> System.out.println(times + " " + answer));
        System.out.println(calls + " calls against the naive telling, " + wrong + " wrong");
        if (wrong != 0) {
            System.exit(1);
        }
    }

    private static Object answer(Object of, Method method, Object[] args) {
        try {
            return method.invoke(of, args);
        } catch (InvocationTargetException e) {
            return "throws " + e.getCause().getClass().getName();
        } catch (IllegalAccessException e) {
            throw new IllegalStateException(e);
        }
    }

    private Object due(String name, Object... args) {
        Class<?>[] types = new Class<?>[args.length];
        Arrays.fill(types, int.class);
        calls++;
        made++;
        try {
            Object got = answer(program, WaveRows.class.getMethod(name, types), args);
            Object want = answer(naive, Naive.class.getMethod(name, types), args);
            if (HISTOGRAM) {
                SEEN.merge(name + " " + want, 1, Integer::sum);
            }
            told.append(name).append(Arrays.toString(args)).append(" = ").append(want).append('\n');
            if (!got.equals(want) && !apart) {
                apart = true;
                wrong++;
                System.out.println("seed " + seed + ": answered " + got + " at the end of\n" + told);
            }
            return want;
        } catch (NoSuchMethodException e) {
            throw new IllegalStateException(e);
        }
    }

    private void goOn() {
        for (int i = 0; seed % 5 == 0 && goesOn(i); i++) {
            tell(texts.text());
        }
        if (goesOn(0)) {
            tell(texts.rightText());
        }
        for (int i = 0; goesOn(i); i++) {
            callAny();
        }
    }

    private boolean goesOn(int step) {
        return step < STEPS && made < LAST_STEP_BEGINS && !apart;
    }

    private void tape(List<Integer> bytes) {
        for (int at = 0; at < bytes.size(); at += 20) {
            Object[] five = new Object[5];
            for (int k = 0; k < 5; k++) {
                int x = 0;
                for (int b = 0; b < 4; b++) {
                    int place = at + 4 * k + b;
                    x = x << 8 | (place < bytes.size() ? bytes.get(place) : 0);
                }
                five[k] = x;
            }
            due("feed", five);
        }
        due("end", bytes.size());
    }

    private void tell(String text) {
        told.append("text ").append(text).append('\n');
        List<Integer> bytes = new ArrayList<>();
        for (int i = 0; i < text.length(); i++) {
            bytes.add((int) text.charAt(i));
        }
        due("end", 0);
        tape(bytes);
        due("field");
        due("fault");
        for (int k = 0; k <= 9; k++) {
            due("count", k);
        }
    }

    private int upTo(int most) {
        return chance.nextInt(most + 1);
    }

    private int argument() {
        int[] wild = {-1, -2, Integer.MIN_VALUE, Integer.MAX_VALUE, 60, 61, 99, 100, 999, 1000, 64, 32, 10};
        return chance.nextInt(15) == 0 ? wild[chance.nextInt(wild.length)] : upTo(chance.nextInt(3) == 0 ? 15 : 5);
    }

    private int below(int many) {
        return many == 0 || chance.nextInt(8) == 0 ? argument() : chance.nextInt(many);
    }

    private int argumentOf(String name) {
        int m = naive.f.hearers.size();
        switch (name) {
            case "reading":
            case "lose":
            case "number":
            case "cover":
            case "strength":
                return below(m);
            case "smoothed":
            case "smoothSeen":
            case "ruleAt":
                return below(m + 1);
            case "twins":
            case "comes":
            case "mend":
            case "wave":
                return below(naive.f.n);
            case "through":
            case "cross":
                return below(naive.f.bearings.size());
            case "hearer":
                return below(Math.max(m, 2));
            case "sender":
                return below(Math.max(naive.f.senders.size(), 3));
            case "rule":
            case "image":
            case "restore":
                return below(2);
            default:
                return argument();
        }
    }

    /** Readings made by a few directions, some of them spoiled, or any, or too many, or too few. */
    private List<Integer> someReadings(int many) {
        long p = naive.p();
        int n = naive.f.n;
        long[] r = new long[many];
        int directions = upTo(3);
        for (int i = 0; i < directions; i++) {
            int d = upTo(n - 1);
            int times = 1 + upTo(1000);
            for (int h = 0; h < many; h++) {
                boolean there = h < naive.f.hearers.size();
                r[h] = (r[h] + times * (there ? naive.column(d)[h] : 1)) % p;
            }
        }
        for (int spoil = chance.nextInt(3) == 0 ? upTo(2) : 0; spoil > 0 && many > 0; spoil--) {
            r[upTo(many - 1)] = upTo(65535);
        }
        return bytes(r);
    }

    private List<Integer> bytes(long[] r) {
        List<Integer> bytes = new ArrayList<>();
        for (long x : r) {
            // The same number by the prime, at times told greater.
            long told = chance.nextInt(4) == 0 && x + naive.p() < 65536 ? x + naive.p() : x;
            bytes.add((int) (told >> 8 & 255));
            bytes.add((int) (told & 255));
        }
        return bytes;
    }

    private int readingsMany() {
        int m = naive.f.hearers.size();
        return chance.nextInt(12) == 0 ? upTo(12) : m;
    }

    private List<Integer> trackReadings() {
        int many = chance.nextInt(10) == 0 ? upTo(10) : 1 + upTo(4);
        long[] r = new long[many];
        int h = upTo(9);
        if (h >= naive.f.hearers.size() || chance.nextInt(4) == 0) {
            return bytes(r);
        }
        int d = upTo(naive.f.n - 1);
        int v = upTo(naive.f.n - 1);
        for (int t = 0; t < many; t++) {
            r[t] = naive.f.hearers.get(h).gain() * 77 % naive.p()
                * naive.w(d + v * t, naive.f.hearers.get(h).place()) % naive.p();
        }
        if (many > 0 && chance.nextInt(5) == 0) {
            r[upTo(many - 1)] = upTo(2000);
        }
        List<Integer> bytes = bytes(r);
        due("end", 0);
        tape(bytes);
        due("tracks", h);
        return bytes;
    }

    private List<Integer> someDirections() {
        List<Integer> bytes = new ArrayList<>();
        int many = upTo(chance.nextInt(6) == 0 ? 8 : 3);
        for (int i = 0; i < many; i++) {
            bytes.add(chance.nextInt(20) == 0 ? upTo(255) : upTo(naive.f.n - 1));
        }
        return bytes;
    }

    private void callWithTape(int which) {
        due("end", 0);
        boolean dear = naive.f.n > 12;
        if (which == 0 && !dear) {
            tape(someReadings(readingsMany()));
            due("fewest");
            for (int k = -1; k <= 3; k++) {
                due("made", k);
                due("madeBy", k);
            }
        } else if (which == 1 && !dear) {
            tape(someReadings(readingsMany()));
            due("liars", chance.nextInt(10) == 0 ? argument() : upTo(2));
            for (int k = -1; k <= 2; k++) {
                due("liar", k);
            }
        } else if (which == 2) {
            tape(someDirections());
            due("nulled");
            for (int h = 0; h < naive.f.hearers.size(); h++) {
                due("number", h);
            }
            due("comes", argumentOf("comes"));
        } else if (which == 3) {
            tape(someReadings(readingsMany()));
            if (chance.nextInt(3) > 0) {
                due("mend", argumentOf("mend"));
            }
        } else if (!dear) {
            tape(trackReadings());
            due("tracks", argument());
            for (int k = -1; k <= 3; k++) {
                due("track", k);
            }
        }
    }

    private static final String[] NONE = {"fault", "order", "seen", "run", "roots", "enough", "fix"};
    private static final String[] ONE = {"moment", "reading", "twins", "smoothed", "smoothSeen", "apart", "lag", "rule",
        "rule", "ruleAt", "strength", "track", "made", "madeBy", "liar", "number", "comes", "fixAt", "image", "restore",
        "count"};
    private static final String[] TWO = {"hearer", "sender", "wave", "cover", "through", "through"};

    private void callAny() {
        int what = chance.nextInt(20);
        if (what == 0) {
            callWithTape(upTo(4));
        } else if (what < 6) {
            String name = NONE[chance.nextInt(NONE.length)];
            due(name);
            for (int i = -1; name.equals("fix") && i < 8; i++) {
                due("fixAt", i);
            }
        } else if (what < 14) {
            String name = ONE[chance.nextInt(ONE.length)];
            due(name, argumentOf(name));
            if (name.equals("rule") && chance.nextBoolean()) {
                tellRule();
            }
        } else if (what < 17) {
            String name = TWO[chance.nextInt(TWO.length)];
            due(name, argumentOf(name), argumentOf(name));
        } else if (what < 18) {
            due("cross", argumentOf("cross"), argumentOf("cross"), below(4));
        } else {
            callSeldom();
        }
    }

    private void tellRule() {
        due("roots");
        for (int k = -1; k <= 11; k++) {
            due("strength", k);
            due("ruleAt", k);
        }
    }

    private void callSeldom() {
        int what = chance.nextInt(12);
        if (what == 0) {
            tell(chance.nextInt(3) == 0 ? texts.text() : texts.rightText());
        } else if (what == 1) {
            due("lose", argumentOf("lose"));
        } else if (what == 2) {
            due("feed", chance.nextInt(), chance.nextInt(), chance.nextInt(), chance.nextInt(), chance.nextInt());
        } else if (what == 3) {
            due("end", chance.nextInt(3) == 0 ? argument() : upTo(940));
        } else if (what == 4) {
            due(new String[] {"fewest", "nulled"}[naive.f.n > 12 ? 1 : chance.nextInt(2)]);
        } else if (what == 5) {
            tellRule();
        } else {
            callWithTape(upTo(4));
        }
    }
}

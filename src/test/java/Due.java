import java.util.NoSuchElementException;

/** What is due of calls, and what of it was not so. */
final class Due {
    private int wrong = 0;
    private int looked = 0;

    interface Call {
        long answer();
    }

    void is(String call, long got, long want) {
        looked++;
        if (got != want) {
            wrong++;
            System.out.println(call + " answered " + got + ", due is " + want);
        }
    }

    void is(String call, boolean got, boolean want) {
        is(call, got ? 1 : 0, want ? 1 : 0);
    }

    void throwsNoSuch(String call, Call asked) {
        looked++;
        String got;
        try {
            got = String.valueOf(asked.answer());
        } catch (NoSuchElementException e) {
            return;
        } catch (RuntimeException e) {
            got = String.valueOf(e);
        }
        wrong++;
        System.out.println(call + " answered " + got + ", due is NoSuchElementException");
    }

    /** Prints how it went; ends the program with 1 if something was wrong. */
    void close(String name) {
        System.out.println(name + ": " + looked + " answers looked at, " + wrong + " wrong");
        if (wrong != 0) {
            System.exit(1);
        }
    }

    /** Puts these bytes alone onto the tape. */
    static void tape(WaveRows x, int... bytes) {
        x.end(0);
        for (int at = 0; at < bytes.length; at += 20) {
            int[] five = new int[5];
            for (int i = 0; i < 20; i++) {
                five[i / 4] = five[i / 4] << 8 | (at + i < bytes.length ? bytes[at + i] : 0);
            }
            x.feed(five[0], five[1], five[2], five[3], five[4]);
        }
        x.end(bytes.length);
    }

    static void text(WaveRows x, String text) {
        tape(x, text.chars().toArray());
    }

    /** Puts these readings alone onto the tape, two bytes each. */
    static void readings(WaveRows x, int... readings) {
        int[] bytes = new int[readings.length * 2];
        for (int i = 0; i < readings.length; i++) {
            bytes[2 * i] = readings[i] >> 8 & 255;
            bytes[2 * i + 1] = readings[i] & 255;
        }
        tape(x, bytes);
    }

    static int told(WaveRows x, String text) {
        text(x, text);
        return x.field();
    }

    static WaveRows of(String text) {
        WaveRows x = new WaveRows();
        if (told(x, text) < 0) {
            throw new IllegalStateException("a test's own text is at fault: " + text);
        }
        return x;
    }
}

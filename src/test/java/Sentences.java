import java.io.IOException;
import java.nio.file.Files;
import java.nio.file.Path;
import java.util.ArrayList;
import java.util.LinkedHashMap;
import java.util.List;
import java.util.Map;
import java.util.NoSuchElementException;

/** Tests of single sentences of the document: each names the heading that it stands under, and quotes it. */
final class Sentences {
    private static final Path DOCUMENT = Path.of("..", "shared", "DOC.md");

    private final Map<String, List<String>> quoted = new LinkedHashMap<>();
    private String where = "";
    private int tests = 0;
    private int looked = 0;
    private int wrong = 0;

    interface Look {
        void at(Sentences t);
    }

    interface Call {
        long answer();
    }

    /** One sentence that stands under that heading, and its test. */
    void says(String heading, String sentence, Look look) {
        quoted.computeIfAbsent(heading, h -> new ArrayList<>()).add(plain(sentence));
        test(heading + ", \"" + sentence + "\": ", look);
    }

    /** One sentence of the terms, and its test by a promise that uses it. */
    void terms(String promise, String sentence, Look look) {
        quoted.computeIfAbsent(promise, h -> new ArrayList<>());
        quoted.computeIfAbsent("Terms", h -> new ArrayList<>()).add(plain(sentence));
        test(promise + ", by the terms, \"" + sentence + "\": ", look);
    }

    /** An exception out of a test is wrong, and the other tests go on. */
    private void test(String name, Look look) {
        where = name;
        tests++;
        int before = looked;
        try {
            look.at(this);
        } catch (RuntimeException e) {
            blame("the test ended with " + e);
        }
        if (looked == before) {
            blame("nothing is looked at");
        }
    }

    private void blame(String what) {
        wrong++;
        System.out.println(where + what);
    }

    void is(String call, long got, long want) {
        looked++;
        if (got != want) {
            blame(call + " answered " + got + ", due is " + want);
        }
    }

    void is(String call, boolean got, boolean want) {
        is(call, got ? 1 : 0, want ? 1 : 0);
    }

    void same(String what, String got, String want) {
        looked++;
        if (!got.equals(want)) {
            blame(what + ": " + got + ", due is " + want);
        }
    }

    void noSuch(String call, Call asked) {
        looked++;
        String got;
        try {
            got = String.valueOf(asked.answer());
        } catch (NoSuchElementException e) {
            return;
        } catch (RuntimeException e) {
            got = String.valueOf(e);
        }
        blame(call + " answered " + got + ", due is NoSuchElementException");
    }

    /** The text is a field on a new object, of so many lines. */
    WaveRows right(String text, int lines) {
        WaveRows x = new WaveRows();
        is("field() of \"" + text + "\"", Due.told(x, text), lines);
        is("fault() of \"" + text + "\"", x.fault(), 0);
        return x;
    }

    /** The text has a fault of that kind at that place. */
    void wrong(String text, int place, int kind) {
        WaveRows x = new WaveRows();
        is("field() of \"" + text + "\"", Due.told(x, text), -1 - place);
        is("fault() of \"" + text + "\"", x.fault(), kind);
    }

    void close() {
        lookThroughDocument();
        System.out.println(tests + " sentences tested, " + looked + " answers looked at, " + wrong + " wrong");
        if (wrong != 0) {
            System.exit(1);
        }
    }

    private static String plain(String text) {
        return text.replaceAll("\\s+", " ").trim();
    }

    /** Each quote stands in the document, and none of its promises and terms is left without a quote. */
    private void lookThroughDocument() {
        where = "";
        if (!Files.isReadable(DOCUMENT)) {
            System.out.println("no document at " + DOCUMENT + ": what is quoted was not looked up");
            return;
        }
        try {
            for (String part : Files.readString(DOCUMENT).split("(?m)^## ")) {
                int end = part.indexOf('\n');
                lookThrough(part.substring(0, end).trim(), part.substring(end));
            }
        } catch (IOException e) {
            blame("the document can't be read: " + e);
        }
        quoted.forEach((heading, left) -> blame("no such heading in the document: " + heading));
    }

    private void lookThrough(String heading, String body) {
        boolean all = heading.startsWith("Promise") || heading.equals("Terms");
        String text = plain(body.replaceAll("```[a-z]*|==== \\d\\.", " ").replaceFirst("^\\s*`[^`]*`", " "));
        boolean[] met = new boolean[text.length()];
        List<String> quotes = quoted.remove(heading);
        for (String quote : quotes == null ? new ArrayList<String>() : quotes) {
            int at = text.indexOf(quote);
            if (at < 0) {
                blame(heading + " doesn't say \"" + quote + "\"");
            }
            for (int i = at; at >= 0 && i < at + quote.length(); i++) {
                met[i] = true;
            }
        }
        StringBuilder left = new StringBuilder();
        for (int i = 0; i < met.length; i++) {
            left.append(met[i] ? ' ' : text.charAt(i));
        }
        if (all && left.chars().anyMatch(Character::isLetterOrDigit)) {
            blame(heading + " says what no test quotes: " + plain(left.toString()));
        }
    }
}

import java.io.IOException;
import java.lang.reflect.InvocationTargetException;
import java.lang.reflect.Method;
import java.nio.file.Files;
import java.nio.file.Path;
import java.util.Arrays;
import java.util.Set;
import java.util.TreeSet;
import java.util.regex.Matcher;
import java.util.regex.Pattern;

/** The calls that README.md tells, with the answers that stand behind them. */
public final class ReadmeTest {
    private static final Pattern TEXT = Pattern.compile("tell\\(rows, \"(.*)\"\\);");
    private static final Pattern BYTES = Pattern.compile("tell\\(rows, ([0-9, ]+)\\);");
    private static final Pattern CALL = Pattern.compile("rows\\.(\\w+)\\(([-0-9, ]*)\\);\\s+// (-?\\w+).*");

    private static final Due DUE = new Due();
    private static final Set<String> CALLED = new TreeSet<>();

    public static void main(String[] args) throws IOException, ReflectiveOperationException {
        String example = Files.readString(Path.of("README.md")).split("WaveRows rows = new WaveRows\\(\\);\n")[1];
        WaveRows rows = new WaveRows();
        for (String line : example.substring(0, example.indexOf("```")).split("\n")) {
            follow(rows, line);
        }
        DUE.is("the example calls much of the class: " + CALLED, CALLED.size() > 15, true);
        DUE.close("ReadmeTest");
    }

    private static void follow(WaveRows rows, String line) throws ReflectiveOperationException {
        Matcher text = TEXT.matcher(line);
        Matcher bytes = BYTES.matcher(line);
        Matcher call = CALL.matcher(line);
        if (text.matches()) {
            Due.text(rows, text.group(1));
        } else if (bytes.matches()) {
            Due.tape(rows, numbers(bytes.group(1)));
        } else if (call.matches()) {
            String got = answer(rows, call.group(1), numbers(call.group(2)));
            DUE.is(line + " (it answered " + got + ")", got.equals(call.group(3)), true);
            CALLED.add(call.group(1));
        } else {
            DUE.is("a line that is no call: " + line, line.isBlank(), true);
        }
    }

    private static String answer(WaveRows rows, String name, int[] given) throws ReflectiveOperationException {
        Class<?>[] types = new Class<?>[given.length];
        Arrays.fill(types, int.class);
        Method method = WaveRows.class.getMethod(name, types);
        try {
            return String.valueOf(method.invoke(rows, Arrays.stream(given).boxed().toArray()));
        } catch (InvocationTargetException e) {
            return e.getCause().getClass().getSimpleName();
        }
    }

    private static int[] numbers(String text) {
        return text.isBlank() ? new int[0] : Arrays.stream(text.split(",")).map(String::trim).mapToInt(Integer::parseInt).toArray();
    }
}

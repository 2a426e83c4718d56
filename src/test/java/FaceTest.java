import java.lang.reflect.Field;
import java.lang.reflect.Method;
import java.lang.reflect.Modifier;
import java.util.Arrays;
import java.util.Set;
import java.util.TreeSet;

/** The public face of the document: all of it, and nothing else that is not private; no private method of its names. */
public final class FaceTest {
    private static final String FACE = "int feed(int,int,int,int,int);boolean end(int);int field();int fault();"
        + "int hearer(int,int);int sender(int,int);boolean moment(int);int wave(int,int);int reading(int);"
        + "int cover(int,int);int order();long seen();long twins(int);int smoothed(int);long smoothSeen(int);int apart(int);"
        + "int run();int lag(int);int rule(int);int ruleAt(int);long roots();int strength(int);int tracks(int);"
        + "int track(int);int enough();int lose(int);int fewest();int made(int);int madeBy(int);int liars(int);"
        + "int liar(int);boolean nulled();int number(int);int comes(int);boolean mend(int);long cross(int,int,int);"
        + "int fix();int fixAt(int);int through(int,int);boolean image(int);boolean restore(int);int count(int)";

    private static final Due DUE = new Due();

    public static void main(String[] args) {
        methods();
        fields();
        DUE.is("the class is public and final", WaveRows.class.getModifiers(), Modifier.PUBLIC | Modifier.FINAL);
        DUE.is("constructors", WaveRows.class.getDeclaredConstructors().length, 1);
        DUE.is("the constructor is public", WaveRows.class.getDeclaredConstructors()[0].getModifiers(), Modifier.PUBLIC);
        for (Class<?> inside : WaveRows.class.getDeclaredClasses()) {
            DUE.is(inside + " is static", Modifier.isStatic(inside.getModifiers()), true);
            DUE.is(inside + " is not public", Modifier.isPublic(inside.getModifiers()), false);
            namesApart(inside);
        }
        DUE.close("FaceTest");
    }

    private static void methods() {
        Set<String> got = new TreeSet<>();
        for (Method m : WaveRows.class.getDeclaredMethods()) {
            if (!Modifier.isPrivate(m.getModifiers()) && !m.isSynthetic()) {
                String types = Arrays.toString(m.getParameterTypes()).replace(", ", ",");
                got.add(m.getReturnType() + " " + m.getName() + "(" + types.substring(1, types.length() - 1) + ")");
                DUE.is(m.getName() + " is public alone", m.getModifiers(), Modifier.PUBLIC);
            }
        }
        Set<String> face = new TreeSet<>(Arrays.asList(FACE.split(";")));
        DUE.is("the methods of the face: " + got, got.equals(face), true);
        namesApart(WaveRows.class);
    }

    private static void namesApart(Class<?> of) {
        Set<String> names = new TreeSet<>();
        for (String method : FACE.split(";")) {
            names.add(method.substring(method.indexOf(' ') + 1, method.indexOf('(')));
        }
        for (Method m : of.getDeclaredMethods()) {
            if (Modifier.isPrivate(m.getModifiers()) || of != WaveRows.class) {
                DUE.is(m + " has a name of its own", names.contains(m.getName()), false);
            }
        }
    }

    private static void fields() {
        for (Field f : WaveRows.class.getDeclaredFields()) {
            boolean face = f.getName().equals("NONE");
            DUE.is(f + " is private", Modifier.isPrivate(f.getModifiers()), !face);
            if (Modifier.isStatic(f.getModifiers())) {
                DUE.is(f + " is final", Modifier.isFinal(f.getModifiers()), true);
            }
        }
    }
}

import java.lang.reflect.Constructor;
import java.lang.reflect.Field;
import java.lang.reflect.Method;
import java.lang.reflect.Modifier;
import java.util.Arrays;
import java.util.Collections;
import java.util.List;
import java.util.TreeSet;

/** The face is that of the document: all of it, and nothing more. */
public final class FaceTest {
    private static final String[] METHODS = {
        "void shape(int,int,int) IAE",
        "void gas(int) IAE",
        "void cell(int,int,int,int,int) IOB IAE ISE",
        "void ignition(int,int,int) IAE",
        "int step(int,int) IAE ISE",
        "int tube(int,int) IOB IAE",
        "int anew(int,int) IOB IAE",
        "int probe(int,int) IOB IAE",
        "long came(int) IAE",
        "boolean isKept(int) IAE",
        "int many()",
        "int steps()",
        "int front(int,int,int,int) IAE ISE",
        "int tick(int) IAE",
        "int fronts()",
        "int ofFront(int,int) IOB IAE",
        "void pipe(int,int,int,int,int,int) IAE",
        "int valve(int) IAE ISE",
        "int reservoir(int) IAE ISE",
        "int flow(int) IAE ISE",
        "int node(int,int) IOB IAE",
        "void keep(int) IAE",
        "void goBack(int) IAE ISE",
    };
    private static final String[] CONSTANTS = {"NONE=-1", "AIR=0", "HELIUM=1", "STEAM=2", "OPEN=0", "WALL=1",
        "SHOCK=0", "CONTACT=1", "FLAME=2"};

    public static void main(String[] args) throws IllegalAccessException {
        int modifiers = ShockTube.class.getModifiers();
        Check.same("the class is public and final",
                Modifier.isPublic(modifiers) && Modifier.isFinal(modifiers) ? 1 : 0, 1);
        constructors();
        methods();
        constants();
        Check.end("FaceTest");
    }

    private static void constructors() {
        Constructor<?>[] all = ShockTube.class.getDeclaredConstructors();
        Check.same("constructors", all.length, 1);
        Check.same("its parameters", all[0].getParameterCount(), 0);
        Check.same("it is public", Modifier.isPublic(all[0].getModifiers()) ? 1 : 0, 1);
    }

    private static void methods() {
        TreeSet<String> got = new TreeSet<>();
        for (Method m : ShockTube.class.getDeclaredMethods()) {
            if (!Modifier.isPrivate(m.getModifiers()) && !m.isSynthetic()) {
                got.add((Modifier.isPublic(m.getModifiers()) ? "" : "hidden ") + told(m));
            }
        }
        Check.same("the methods", got.toString(), new TreeSet<>(Arrays.asList(METHODS)).toString());
    }

    private static String told(Method m) {
        StringBuilder text = new StringBuilder(m.getReturnType() + " " + m.getName() + "(");
        List<String> types = new java.util.ArrayList<>();
        for (Class<?> type : m.getParameterTypes()) {
            types.add(type.toString());
        }
        text.append(String.join(",", types)).append(")");
        for (Class<?> e : m.getExceptionTypes()) {
            String name = e.getSimpleName();
            text.append(name.equals(Check.IOB) ? " IOB" : name.equals(Check.IAE) ? " IAE" : " ISE");
        }
        return text.toString();
    }

    private static void constants() throws IllegalAccessException {
        TreeSet<String> got = new TreeSet<>();
        for (Field f : ShockTube.class.getDeclaredFields()) {
            int modifiers = f.getModifiers();
            if (!Modifier.isPrivate(modifiers)) {
                boolean isRight = Modifier.isPublic(modifiers) && Modifier.isStatic(modifiers)
                        && Modifier.isFinal(modifiers) && f.getType() == int.class;
                got.add(isRight ? f.getName() + "=" + f.getInt(null) : "hidden " + f.getName());
            }
        }
        TreeSet<String> want = new TreeSet<>();
        Collections.addAll(want, CONSTANTS);
        Check.same("the constants", got.toString(), want.toString());
    }
}

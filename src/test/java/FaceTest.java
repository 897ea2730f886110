import java.lang.reflect.Constructor;
import java.lang.reflect.Field;
import java.lang.reflect.Method;
import java.lang.reflect.Modifier;
import java.util.TreeSet;

/** The class shows the document's face and nothing else (rules 1, 2 and 11 of LANGUAGE.md). */
public final class FaceTest {
    private static final Due DUE = new Due();
    private static final int MOST_FIELDS = 20;
    private static final String FACE = "boolean give(int), boolean map(int,int), "
            + "boolean open(int,boolean,int,int), boolean pass(), boolean reset(), "
            + "boolean room(int), int code(boolean), int faults(), int fetch(), int flush(), "
            + "int put(), int ready(), int state(), int taken(), int waiting()";

    public static void main(String[] args) {
        Class<?> type = ResumableCoder.class;
        DUE.yes("public and final", Modifier.isPublic(type.getModifiers())
                && Modifier.isFinal(type.getModifiers()));
        TreeSet<String> shown = new TreeSet<>();
        TreeSet<String> names = new TreeSet<>();
        for (Method m : type.getDeclaredMethods()) {
            if (!Modifier.isPrivate(m.getModifiers()) && !m.isSynthetic()) {
                shown.add(signature(m));
                names.add(m.getName());
                DUE.yes(m + " public", Modifier.isPublic(m.getModifiers()));
            }
        }
        DUE.same("the methods", String.join(", ", shown), FACE);
        for (Method m : type.getDeclaredMethods()) {
            DUE.no(m + " bears a public name",
                    Modifier.isPrivate(m.getModifiers()) && names.contains(m.getName()));
        }
        for (Field f : type.getDeclaredFields()) {
            DUE.yes(f + " private", Modifier.isPrivate(f.getModifiers()));
            DUE.yes(f + " final if static", !Modifier.isStatic(f.getModifiers())
                    || Modifier.isFinal(f.getModifiers()));
        }
        Constructor<?>[] made = type.getDeclaredConstructors();
        DUE.same("constructors", made.length, 1);
        DUE.yes("public without parameters", Modifier.isPublic(made[0].getModifiers())
                && made[0].getParameterCount() == 0);
        DUE.yes(type + " fields", fieldsBesideConstants(type) <= MOST_FIELDS);
        for (Class<?> c : type.getDeclaredClasses()) {
            DUE.yes(c + " fields", fieldsBesideConstants(c) <= MOST_FIELDS);
            DUE.yes(c + " static", Modifier.isStatic(c.getModifiers()));
            DUE.no(c + " public", Modifier.isPublic(c.getModifiers()));
            for (Method m : c.getDeclaredMethods()) {
                DUE.no(m + " bears a public name", names.contains(m.getName()));
            }
        }
        DUE.end();
    }

    private static int fieldsBesideConstants(Class<?> type) {
        int fields = 0;
        for (Field f : type.getDeclaredFields()) {
            fields += Modifier.isStatic(f.getModifiers()) ? 0 : 1;
        }
        return fields;
    }

    private static String signature(Method m) {
        StringBuilder parameters = new StringBuilder();
        for (Class<?> p : m.getParameterTypes()) {
            parameters.append(parameters.length() == 0 ? "" : ",").append(p);
        }
        return m.getReturnType() + " " + m.getName() + "(" + parameters + ")";
    }
}

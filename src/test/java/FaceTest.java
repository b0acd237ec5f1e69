import java.lang.reflect.Constructor;
import java.lang.reflect.Field;
import java.lang.reflect.Method;
import java.lang.reflect.Modifier;
import java.util.Set;
import java.util.TreeSet;

/** The class has the document's public face and nothing more that others can see. */
public final class FaceTest {
    private static final String[] METHODS = {
        "void set(int,long,long)", "int combine(int,int,int,int)", "int change(int,int,int)", "int power(int,int,int)",
        "int order(int,int)", "int sign(int)", "int places(int,int)", "long part(int,int,int)", "int write(int)",
        "int type(long,int)", "int wipe()", "int character(int)", "int read(int)", "int place()",
    };

    private FaceTest() {
    }

    public static void main(String[] args) {
        Checks.due("NONE", FractionDesk.NONE, -1);
        Checks.due("BIG", FractionDesk.BIG, -1);
        Checks.due("ZERO", FractionDesk.ZERO, -2);
        Checks.due("public", Modifier.isPublic(FractionDesk.class.getModifiers()) ? 1 : 0, 1);
        Checks.due("final", Modifier.isFinal(FractionDesk.class.getModifiers()) ? 1 : 0, 1);
        Checks.same("constructors", constructors(), "[0]");
        Checks.same("methods", methods(), new TreeSet<>(Set.of(METHODS)).toString());
        Checks.same("constants", constants(), "[BIG, NONE, ZERO]");
        Checks.end("FaceTest");
    }

    private static String constructors() {
        Set<Integer> found = new TreeSet<>();
        for (Constructor<?> constructor : FractionDesk.class.getDeclaredConstructors()) {
            if (!Modifier.isPrivate(constructor.getModifiers())) {
                found.add(constructor.getParameterCount());
            }
        }
        return found.toString();
    }

    private static String methods() {
        Set<String> found = new TreeSet<>();
        for (Method method : FractionDesk.class.getDeclaredMethods()) {
            if (!Modifier.isPrivate(method.getModifiers())) {
                StringBuilder types = new StringBuilder();
                for (Class<?> type : method.getParameterTypes()) {
                    types.append(types.length() == 0 ? "" : ",").append(type.getName());
                }
                found.add(method.getReturnType().getName() + " " + method.getName() + "(" + types + ")");
            }
        }
        return found.toString();
    }

    private static String constants() {
        Set<String> found = new TreeSet<>();
        for (Field field : FractionDesk.class.getDeclaredFields()) {
            if (!Modifier.isPrivate(field.getModifiers())) {
                found.add(field.getName());
            }
        }
        return found.toString();
    }
}

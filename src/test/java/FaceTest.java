import java.lang.reflect.Constructor;
import java.lang.reflect.Field;
import java.lang.reflect.Method;
import java.lang.reflect.Modifier;
import java.util.Set;
import java.util.TreeSet;

/** The class has the document's public face and nothing more that others can see. */
public final class FaceTest {
    private static final String REFUSES = " throws IllegalArgumentException";
    private static final String[] METHODS = {
        "void set(int,long,long)" + REFUSES, "int combine(int,int,int,int)" + REFUSES,
        "int change(int,int,int)" + REFUSES, "int power(int,int,int)" + REFUSES,
        "int order(int,int)" + REFUSES, "int sign(int)" + REFUSES,
        "int places(int,int)" + REFUSES, "long part(int,int,int)" + REFUSES, "int write(int)" + REFUSES,
        "int type(long,int)", "int wipe()", "int character(int)", "int read(int)" + REFUSES + ",IllegalStateException",
        "int place()",
    };

    private FaceTest() {
    }

    public static void main(String[] args) {
        Checks.sentence("The public face", "public final class FractionDesk");
        Checks.due("NONE", FractionDesk.NONE, -1);
        Checks.due("BIG", FractionDesk.BIG, -1);
        Checks.due("ZERO", FractionDesk.ZERO, -2);
        Checks.due("public", Modifier.isPublic(FractionDesk.class.getModifiers()) ? 1 : 0, 1);
        Checks.due("final", Modifier.isFinal(FractionDesk.class.getModifiers()) ? 1 : 0, 1);
        Checks.same("constructors", constructors(), "[0]");
        Checks.same("methods", methods(), new TreeSet<>(Set.of(METHODS)).toString());
        Checks.same("constants", constants(), "[BIG, NONE, ZERO]");
        Checks.end("FaceTest");
    }

    private static String constructors() {
        Set<Integer> found = new TreeSet<>();
        for (Constructor<?> constructor : FractionDesk.class.getDeclaredConstructors()) {
            if (!Modifier.isPrivate(constructor.getModifiers())) {
                found.add(constructor.getParameterCount());
            }
        }
        return found.toString();
    }

    private static String methods() {
        Set<String> found = new TreeSet<>();
        for (Method method : FractionDesk.class.getDeclaredMethods()) {
            if (!Modifier.isPrivate(method.getModifiers())) {
                String parameters = names(method.getParameterTypes());
                String thrown = names(method.getExceptionTypes());
                found.add(method.getReturnType().getSimpleName() + " " + method.getName() + "(" + parameters + ")"
                    + (thrown.isEmpty() ? "" : " throws " + thrown));
            }
        }
        return found.toString();
    }

    private static String names(Class<?>[] types) {
        StringBuilder row = new StringBuilder();
        for (Class<?> type : types) {
            row.append(row.length() == 0 ? "" : ",").append(type.getSimpleName());
        }
        return row.toString();
    }

    private static String constants() {
        Set<String> found = new TreeSet<>();
        for (Field field : FractionDesk.class.getDeclaredFields()) {
            if (!Modifier.isPrivate(field.getModifiers())) {
                found.add(field.getName());
            }
        }
        return found.toString();
    }
}

import java.lang.reflect.Constructor;
import java.lang.reflect.Field;
import java.lang.reflect.Method;
import java.lang.reflect.Modifier;
import java.util.Arrays;
import java.util.Set;
import java.util.TreeSet;

/** The class has the document's face and nothing else that others can see. */
public final class FaceTest {
    private static final Set<String> FACE = new TreeSet<>(Arrays.asList(
            "int put(int,int,int)", "int drop(int,int)", "int version(int,int)",
            "int grams(int,int)", "int size(int)", "int word(int,int)", "int sample(int,int)",
            "int exchange(int,int,int)", "int list(int,int)", "int settle(int,int,int)",
            "int spread(int)", "int difference(int,int)", "long sent()", "int degree(int)",
            "int factor(int,int)"));

    public static void main(String[] args) {
        Checks checks = new Checks();
        Class<?> face = SampledBanks.class;
        int modifiers = face.getModifiers();
        checks.holds("public and final", Modifier.isPublic(modifiers) && Modifier.isFinal(modifiers));

        Set<String> methods = new TreeSet<>();
        for (Method method : face.getDeclaredMethods()) {
            if (!Modifier.isPrivate(method.getModifiers())) {
                methods.add(signature(method));
                checks.holds(method + " is public", Modifier.isPublic(method.getModifiers()));
            } else {
                checks.holds(method + " has a name of its own", !isFaceName(method.getName()));
            }
        }
        checks.holds("the methods are the face's: " + methods, methods.equals(FACE));

        Set<String> fields = new TreeSet<>();
        for (Field field : face.getDeclaredFields()) {
            if (!Modifier.isPrivate(field.getModifiers())) {
                fields.add(field.getName());
            }
            boolean isStatic = Modifier.isStatic(field.getModifiers());
            checks.holds(field + " is no static state", !isStatic || Modifier.isFinal(field.getModifiers()));
        }
        checks.holds("the constants are the face's: " + fields,
                fields.equals(new TreeSet<>(Arrays.asList("BAD", "NONE", "FULL", "FAILED"))));

        Constructor<?>[] constructors = face.getDeclaredConstructors();
        checks.due("constructors", constructors.length, 1);
        checks.due("its parameters", constructors[0].getParameterCount(), 0);
        checks.holds("it is public", Modifier.isPublic(constructors[0].getModifiers()));

        checks.due("BAD", SampledBanks.BAD, -1);
        checks.due("NONE", SampledBanks.NONE, -2);
        checks.due("FULL", SampledBanks.FULL, -3);
        checks.due("FAILED", SampledBanks.FAILED, -4);
        checks.finish();
    }

    private static boolean isFaceName(String name) {
        for (String signature : FACE) {
            if (signature.contains(" " + name + "(")) {
                return true;
            }
        }
        return false;
    }

    private static String signature(Method method) {
        StringBuilder parameters = new StringBuilder();
        for (Class<?> type : method.getParameterTypes()) {
            parameters.append(parameters.length() == 0 ? "" : ",").append(type.getName());
        }
        return method.getReturnType().getName() + " " + method.getName() + "(" + parameters + ")";
    }
}

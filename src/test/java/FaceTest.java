import java.lang.reflect.Constructor;
import java.lang.reflect.Field;
import java.lang.reflect.Method;
import java.lang.reflect.Modifier;
import java.util.Arrays;
import java.util.Set;
import java.util.TreeSet;

/** The class has the document's face and nothing else that others can see; static fields are final. */
public final class FaceTest {
    private static final Set<String> FACE = new TreeSet<>(Arrays.asList(
            "int put(int,int,int)", "int drop(int,int)", "int version(int,int)",
            "int grams(int,int)", "int size(int)", "int word(int,int)", "int sample(int,int)",
            "int exchange(int,int,int)", "int list(int,int)", "int settle(int,int,int)",
            "int spread(int)", "int difference(int,int)", "long sent()", "int degree(int)",
            "int factor(int,int)"));
    private static final Checks checks = new Checks();

    public static void main(String[] args) {
        Class<?> face = SampledBanks.class;
        int modifiers = face.getModifiers();
        checks.holds("public and final", Modifier.isPublic(modifiers) && Modifier.isFinal(modifiers));
        methodsOf(face);
        constantsOf(face);
        constructorOf(face);
        staticFieldsAreFinal(face);
        for (Class<?> inside : face.getDeclaredClasses()) {
            classInside(inside);
            staticFieldsAreFinal(inside);
        }
        checks.finish();
    }

    private static void methodsOf(Class<?> face) {
        Set<String> methods = new TreeSet<>();
        for (Method method : face.getDeclaredMethods()) {
            if (!Modifier.isPrivate(method.getModifiers())) {
                methods.add(signature(method));
                checks.holds(method + " is public", Modifier.isPublic(method.getModifiers()));
                checks.holds(method + " is of an object", !Modifier.isStatic(method.getModifiers()));
                checks.due(method + " tells of exceptions", method.getExceptionTypes().length, 0);
            } else {
                checks.holds(method + " has a name of its own", !isFaceName(method.getName()));
            }
        }
        checks.same("the methods", methods, FACE);
    }

    private static void constantsOf(Class<?> face) {
        Set<String> constants = new TreeSet<>();
        for (Field field : face.getDeclaredFields()) {
            int modifiers = field.getModifiers();
            if (!Modifier.isPrivate(modifiers)) {
                constants.add(field.getType() + " " + field.getName());
                checks.holds(field + " is public", Modifier.isPublic(modifiers));
                checks.holds(field + " is of the class", Modifier.isStatic(modifiers));
            }
        }
        checks.same("the constants", constants,
                new TreeSet<>(Arrays.asList("int BAD", "int NONE", "int FULL", "int FAILED")));
        checks.due("BAD", SampledBanks.BAD, -1);
        checks.due("NONE", SampledBanks.NONE, -2);
        checks.due("FULL", SampledBanks.FULL, -3);
        checks.due("FAILED", SampledBanks.FAILED, -4);
    }

    private static void constructorOf(Class<?> face) {
        Constructor<?>[] constructors = face.getDeclaredConstructors();
        checks.due("constructors", constructors.length, 1);
        checks.due("its parameters", constructors[0].getParameterCount(), 0);
        checks.holds("it is public", Modifier.isPublic(constructors[0].getModifiers()));
    }

    private static void staticFieldsAreFinal(Class<?> any) {
        for (Field field : any.getDeclaredFields()) {
            int modifiers = field.getModifiers();
            boolean isStatic = Modifier.isStatic(modifiers);
            checks.holds(field + " is final if static", !isStatic || Modifier.isFinal(modifiers));
        }
    }

    private static void classInside(Class<?> inside) {
        int modifiers = inside.getModifiers();
        checks.holds(inside + " is static", Modifier.isStatic(modifiers));
        checks.holds(inside + " is not seen outside",
                !Modifier.isPublic(modifiers) && !Modifier.isProtected(modifiers));
        for (Method method : inside.getDeclaredMethods()) {
            boolean isPrivate = Modifier.isPrivate(method.getModifiers());
            checks.holds(method + " has a name of its own", !isPrivate || !isFaceName(method.getName()));
        }
    }

    private static boolean isFaceName(String name) {
        return FACE.stream().anyMatch(signature -> signature.contains(" " + name + "("));
    }

    private static String signature(Method method) {
        StringBuilder parameters = new StringBuilder();
        for (Class<?> type : method.getParameterTypes()) {
            parameters.append(parameters.length() == 0 ? "" : ",").append(type.getName());
        }
        return method.getReturnType().getName() + " " + method.getName() + "(" + parameters + ")";
    }
}

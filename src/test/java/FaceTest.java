import java.lang.reflect.Constructor;
import java.lang.reflect.Field;
import java.lang.reflect.Method;
import java.lang.reflect.Modifier;
import java.util.Set;
import java.util.TreeSet;

/** The public face: just what the document shows, and no name of it on a private method. */
final class FaceTest {
    private static final Due DUE = new Due("FaceTest");
    private static final Set<String> METHODS = new TreeSet<>(Set.of(
        "configure(int, int)", "setEntry(int, int, int)", "append(int)", "clearText()", "loadText()",
        "entry(int, int)", "rank()", "isPositive()", "graverCount()", "graverEntry(int, int)",
        "isCircuit(int)", "isIndispensable(int)", "setVector(int, int)", "isInKernel()",
        "decompositionLength()", "decompositionStep(int)", "setPoint(int, int)", "fiberSize()",
        "fiberEntry(int, int)", "activate(int, int)", "isActive(int)", "classes()", "distance(int)",
        "isMarkov()", "reduce()", "undo()"));

    public static void main(String[] args) {
        Class<?> face = GraverCalculator.class;
        DUE.is("public and final", face.getModifiers(), Modifier.PUBLIC | Modifier.FINAL);
        DUE.is("interfaces", face.getInterfaces().length, 0);
        DUE.is("superclass is Object", face.getSuperclass() == Object.class ? 1 : 0, 1);
        lookAtMethods(face);
        lookAtFields(face);
        Constructor<?>[] constructors = face.getDeclaredConstructors();
        DUE.is("constructors", constructors.length, 1);
        DUE.is("constructor is public", constructors[0].getModifiers(), Modifier.PUBLIC);
        DUE.is("constructor's parameters", constructors[0].getParameterCount(), 0);
        DUE.is("INVALID_ARGUMENT", GraverCalculator.INVALID_ARGUMENT, -1001);
        DUE.is("ILLEGAL_STATE", GraverCalculator.ILLEGAL_STATE, -1002);
        DUE.is("CAPACITY_EXCEEDED", GraverCalculator.CAPACITY_EXCEEDED, -1003);
        DUE.is("NONE", GraverCalculator.NONE, -1009);
        DUE.end();
    }

    private static void lookAtMethods(Class<?> face) {
        Set<String> found = new TreeSet<>();
        Set<String> names = new TreeSet<>();
        for (String signature : METHODS) names.add(signature.substring(0, signature.indexOf('(')));
        for (Method method : face.getDeclaredMethods()) {
            if (Modifier.isPublic(method.getModifiers())) {
                DUE.is(method + " is an int method of objects", method.getReturnType() == int.class && !Modifier.isStatic(method.getModifiers()) ? 1 : 0, 1);
                found.add(signature(method));
            } else {
                DUE.is(method + " is private", Modifier.isPrivate(method.getModifiers()) ? 1 : 0, 1);
                DUE.is(method + " has a public method's name", names.contains(method.getName()) ? 1 : 0, 0);
            }
        }
        DUE.is("public methods " + found + " are those of the document", found.equals(METHODS) ? 1 : 0, 1);
    }

    private static void lookAtFields(Class<?> face) {
        Set<String> found = new TreeSet<>();
        for (Field field : face.getDeclaredFields()) {
            int modifiers = field.getModifiers();
            if (Modifier.isPublic(modifiers)) {
                found.add(field.getName());
                DUE.is(field + " is a constant", modifiers, Modifier.PUBLIC | Modifier.STATIC | Modifier.FINAL);
            } else {
                DUE.is(field + " is private", Modifier.isPrivate(modifiers) ? 1 : 0, 1);
            }
        }
        DUE.is("constants " + found, found.equals(Set.of("INVALID_ARGUMENT", "ILLEGAL_STATE", "CAPACITY_EXCEEDED", "NONE")) ? 1 : 0, 1);
    }

    private static String signature(Method method) {
        StringBuilder text = new StringBuilder(method.getName()).append('(');
        for (Class<?> type : method.getParameterTypes()) {
            text.append(text.charAt(text.length() - 1) == '(' ? "" : ", ").append(type.getName());
        }
        return text.append(')').toString();
    }
}

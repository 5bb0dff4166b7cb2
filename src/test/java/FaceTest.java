import java.lang.reflect.Constructor;
import java.lang.reflect.Field;
import java.lang.reflect.Method;
import java.lang.reflect.Modifier;
import java.util.Arrays;
import java.util.TreeSet;

/** The class has the face that the document writes out, and no other member that can be seen from outside. */
public final class FaceTest {
    private static final String[] FACE = {
        "int install(int, int, int, int, int, int, int) IllegalArgumentException IllegalStateException",
        "int retire(int) IndexOutOfBoundsException",
        "int moveTo(int, int, int) IndexOutOfBoundsException IllegalArgumentException",
        "int setVersion(int, int, int) IndexOutOfBoundsException IllegalArgumentException",
        "int setPool(int, int) IndexOutOfBoundsException IllegalArgumentException",
        "int installs()",
        "boolean isThere(int)",
        "int entitle(int, int, int, char, int, int) IllegalArgumentException IllegalStateException",
        "int setRights(int, boolean, boolean, boolean) IndexOutOfBoundsException",
        "int setMinimum(int, int) IndexOutOfBoundsException IllegalArgumentException UnsupportedOperationException",
        "int setPrice(int, int) IndexOutOfBoundsException IllegalArgumentException",
        "int addUnits(int, int) IndexOutOfBoundsException IllegalArgumentException IllegalStateException",
        "int units(int) IndexOutOfBoundsException",
        "char why(int, int) IndexOutOfBoundsException",
        "int fitting(int) IndexOutOfBoundsException",
        "int firstFitting(int) IndexOutOfBoundsException NoSuchElementException",
        "int unitsForAll(int) IndexOutOfBoundsException",
        "int covered()",
        "int coveredByTrying() UnsupportedOperationException",
        "int entitlementOf(int) IndexOutOfBoundsException NoSuchElementException",
        "char reason(int) IndexOutOfBoundsException",
        "int used(int) IndexOutOfBoundsException",
        "int spare(int) IndexOutOfBoundsException",
        "int purchase() NoSuchElementException",
        "int purchaseByTrying() UnsupportedOperationException NoSuchElementException",
        "int toBuy(int) IndexOutOfBoundsException NoSuchElementException",
        "int trueUp() NoSuchElementException",
        "long spent()",
        "float coverage() NoSuchElementException",
    };

    public static void main(String[] args) {
        Checks checks = new Checks();
        int kind = Entitled.class.getModifiers();
        checks.due("the class is public and final", Modifier.isPublic(kind) && Modifier.isFinal(kind), true);
        checks.due("methods", seenMethods(checks), new TreeSet<>(Arrays.asList(FACE)));
        for (Field field : Entitled.class.getDeclaredFields()) {
            checks.due("field " + field.getName() + " is private", Modifier.isPrivate(field.getModifiers()), true);
        }
        Constructor<?>[] constructors = Entitled.class.getDeclaredConstructors();
        checks.due("constructors", constructors.length, 1);
        checks.due("constructor", constructors[0].toString(), "public Entitled()");
        for (Class<?> inside : Entitled.class.getDeclaredClasses()) {
            boolean hidden = !Modifier.isPublic(inside.getModifiers()) && !Modifier.isProtected(inside.getModifiers());
            checks.due(inside + " is hidden and static", hidden && Modifier.isStatic(inside.getModifiers()), true);
        }
        checks.end();
    }

    private static TreeSet<String> seenMethods(Checks checks) {
        TreeSet<String> publicNames = new TreeSet<>();
        TreeSet<String> seen = new TreeSet<>();
        for (Method method : Entitled.class.getDeclaredMethods()) {
            if (!Modifier.isPrivate(method.getModifiers())) {
                publicNames.add(method.getName());
                seen.add(faceOf(method));
            }
        }
        for (Method method : Entitled.class.getDeclaredMethods()) {
            if (Modifier.isPrivate(method.getModifiers())) {
                checks.due(method.getName() + " is a public name", publicNames.contains(method.getName()), false);
            }
        }
        return seen;
    }

    private static String faceOf(Method method) {
        StringBuilder text = new StringBuilder();
        text.append(method.getReturnType()).append(' ').append(method.getName()).append('(');
        Class<?>[] types = method.getParameterTypes();
        for (int i = 0; i < types.length; i++) {
            text.append(i == 0 ? "" : ", ").append(types[i]);
        }
        text.append(')');
        for (Class<?> thrown : method.getExceptionTypes()) {
            text.append(' ').append(thrown.getSimpleName());
        }
        return text.toString();
    }
}

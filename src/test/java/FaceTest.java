import java.lang.reflect.Constructor;
import java.lang.reflect.Field;
import java.lang.reflect.Method;
import java.lang.reflect.Modifier;
import java.util.ArrayList;
import java.util.List;
import java.util.TreeSet;

/** The face is that of the document, to the letter, and nothing else can be reached. */
public final class FaceTest {
    private static final String[] FACE = {
        "int begin(int, int, int) throws IllegalArgumentException",
        "void setRules(int, int) throws IllegalArgumentException",
        "int arrive(int) throws IllegalArgumentException, IllegalStateException",
        "int arriveIn(int, int) throws IllegalArgumentException, IndexOutOfBoundsException,"
            + " IllegalStateException",
        "int release() throws IllegalStateException",
        "int releaseFrom(int) throws IndexOutOfBoundsException, IllegalStateException",
        "int releaseBest() throws IllegalStateException",
        "int sendBack(int) throws IndexOutOfBoundsException, IllegalStateException",
        "int reenter(int) throws IndexOutOfBoundsException, IllegalStateException",
        "int assemble() throws IllegalStateException",
        "int bodies()",
        "int colour(int) throws IndexOutOfBoundsException",
        "int where(int) throws IndexOutOfBoundsException",
        "int inLane(int) throws IndexOutOfBoundsException",
        "int bodyAt(int, int) throws IndexOutOfBoundsException",
        "int block(int) throws IndexOutOfBoundsException",
        "int stored()",
        "int changes()",
        "int released()",
        "int assembledAt(int) throws IndexOutOfBoundsException",
        "int lateness(int) throws IndexOutOfBoundsException, IllegalStateException",
        "int worstLateness()",
        "int fewestChanges() throws IllegalStateException",
        "int fewestByAll() throws IllegalStateException",
    };

    public static void main(String[] args) {
        Check check = new Check("FaceTest");
        Class<?> type = PaintSequencer.class;
        check.same("modifiers", "public final", Modifier.toString(type.getModifiers()));
        check.same("superclass", Object.class, type.getSuperclass());
        check.same("constructors", 1, type.getDeclaredConstructors().length);
        for (Constructor<?> made : type.getDeclaredConstructors()) {
            check.same("constructor", "public 0",
                Modifier.toString(made.getModifiers()) + " " + made.getParameterCount());
        }
        TreeSet<String> seen = new TreeSet<>();
        TreeSet<String> publicNames = new TreeSet<>();
        for (Method method : type.getDeclaredMethods()) {
            if (!Modifier.isPrivate(method.getModifiers())) {
                check.same(method.getName(), "public", Modifier.toString(method.getModifiers()));
                seen.add(told(method));
                publicNames.add(method.getName());
            }
        }
        check.same("methods", new TreeSet<>(List.of(FACE)), seen);
        for (Field field : type.getDeclaredFields()) {
            int modifiers = field.getModifiers();
            check.same(field.getName() + " is private", true, Modifier.isPrivate(modifiers));
            check.same(field.getName() + " is final if static", true,
                !Modifier.isStatic(modifiers) || Modifier.isFinal(modifiers));
        }
        checkPrivateNames(check, type, publicNames);
        check.end();
    }

    private static void checkPrivateNames(Check check, Class<?> type, TreeSet<String> publicNames) {
        List<Class<?>> all = new ArrayList<>(List.of(type.getDeclaredClasses()));
        for (Class<?> inside : all) {
            check.same(inside.getName() + " is static", true,
                Modifier.isStatic(inside.getModifiers()));
            check.same(inside.getName() + " is not public", false,
                Modifier.isPublic(inside.getModifiers()));
        }
        all.add(type);
        for (Class<?> one : all) {
            for (Method method : one.getDeclaredMethods()) {
                if (!Modifier.isPublic(method.getModifiers())) {
                    check.same(method.getName() + " bears a public name", false,
                        publicNames.contains(method.getName()));
                }
            }
        }
    }

    private static String told(Method method) {
        return method.getReturnType().getSimpleName() + " " + method.getName()
            + "(" + joined(method.getParameterTypes()) + ")"
            + (method.getExceptionTypes().length == 0 ? ""
                : " throws " + joined(method.getExceptionTypes()));
    }

    private static String joined(Class<?>[] types) {
        List<String> names = new ArrayList<>();
        for (Class<?> type : types) {
            names.add(type.getSimpleName());
        }
        return String.join(", ", names);
    }
}

import java.lang.reflect.Constructor;
import java.lang.reflect.Method;
import java.lang.reflect.Modifier;
import java.util.Arrays;
import java.util.TreeSet;

/** The face: just the members of the document, with their types and exceptions. */
public final class FaceTest {
    private static final String[] DUE = {
        "int addVariable(int, int) IllegalArgumentException IllegalStateException",
        "int setLeast(int, int) IndexOutOfBoundsException IllegalArgumentException",
        "int setGreatest(int, int) IndexOutOfBoundsException IllegalArgumentException",
        "int type(char) IllegalArgumentException IllegalStateException",
        "int erase()",
        "char fault()",
        "int faultAt() NoSuchElementException",
        "boolean isAim()",
        "int tell() UnsupportedOperationException IllegalStateException",
        "int dropRow(int) IndexOutOfBoundsException IllegalStateException",
        "int setNumber(int, int) IndexOutOfBoundsException IllegalArgumentException "
                + "IllegalStateException",
        "int dropAims()",
        "int coefficient(int, int) IndexOutOfBoundsException",
        "char relation(int) IndexOutOfBoundsException",
        "int lineLength(int) IndexOutOfBoundsException",
        "char lineAt(int, int) IndexOutOfBoundsException",
        "char state()",
        "int open() NoSuchElementException",
        "long valueTop(int) IndexOutOfBoundsException NoSuchElementException",
        "long valueBottom(int) IndexOutOfBoundsException NoSuchElementException",
        "long topByPoints(int) IndexOutOfBoundsException NoSuchElementException",
        "long pointTop(int) IndexOutOfBoundsException NoSuchElementException",
        "long pointBottom(int) IndexOutOfBoundsException NoSuchElementException",
        "boolean isTight(int) IndexOutOfBoundsException IllegalStateException "
                + "NoSuchElementException",
        "int tight() NoSuchElementException",
        "boolean isProved()",
        "long worthTop(int) IndexOutOfBoundsException IllegalStateException "
                + "NoSuchElementException",
        "long worthBottom(int) IndexOutOfBoundsException IllegalStateException "
                + "NoSuchElementException",
        "int conflict() IllegalStateException",
        "int wholeAt(int) IndexOutOfBoundsException UnsupportedOperationException "
                + "NoSuchElementException",
        "int wholeValue(int) IndexOutOfBoundsException UnsupportedOperationException "
                + "NoSuchElementException",
        "char keep(int) IllegalArgumentException NoSuchElementException",
        "char kept(int) IllegalArgumentException",
        "int brokenBy(int) IllegalArgumentException NoSuchElementException "
                + "UnsupportedOperationException",
        "float tightShare() NoSuchElementException"};

    private FaceTest() { }

    public static void main(String[] args) {
        Checks checks = new Checks();
        checks.about("the face");
        Class<?> face = Tableaufloor.class;
        checks.due("public final", Modifier.toString(face.getModifiers()));
        checks.due(Object.class, face.getSuperclass());
        checks.due(0, face.getInterfaces().length);
        checks.due(1, face.getDeclaredConstructors().length);
        Constructor<?> constructor = face.getDeclaredConstructors()[0];
        checks.due("public Tableaufloor()", constructor.toString());
        TreeSet<String> told = new TreeSet<>();
        TreeSet<String> names = new TreeSet<>();
        for (Method method : face.getDeclaredMethods()) {
            if (!Modifier.isPrivate(method.getModifiers())) {
                checks.due("public", Modifier.toString(method.getModifiers()));
                told.add(written(method));
                names.add(method.getName());
            }
        }
        checks.due(new TreeSet<>(Arrays.asList(DUE)), told);
        checks.due(new TreeSet<>(Arrays.asList(Calls.NAMES)), names);
        checkHidden(checks, face, names);
        checks.end("FaceTest");
    }

    private static void checkHidden(Checks checks, Class<?> face, TreeSet<String> names) {
        for (Method method : face.getDeclaredMethods()) {
            checks.isTrue("a private method is named as a public one: " + method,
                    !Modifier.isPrivate(method.getModifiers())
                    || !names.contains(method.getName()));
        }
        for (java.lang.reflect.Field field : face.getDeclaredFields()) {
            checks.isTrue("private: " + field, Modifier.isPrivate(field.getModifiers()));
        }
        checks.isTrue("at most twelve classes", face.getDeclaredClasses().length <= 11);
        for (Class<?> inside : face.getDeclaredClasses()) {
            int modifiers = inside.getModifiers();
            checks.isTrue("private and static: " + inside,
                    Modifier.isPrivate(modifiers) && Modifier.isStatic(modifiers));
            for (Method method : inside.getDeclaredMethods()) {
                checks.isTrue("a method inside is named as a public one: " + method,
                        !names.contains(method.getName()));
            }
            for (java.lang.reflect.Field field : inside.getDeclaredFields()) {
                checks.isTrue("no state is static: " + field,
                        !Modifier.isStatic(field.getModifiers())
                        || Modifier.isFinal(field.getModifiers()));
            }
        }
    }

    private static String written(Method method) {
        StringBuilder result = new StringBuilder();
        result.append(method.getReturnType()).append(' ').append(method.getName()).append('(');
        String between = "";
        for (Class<?> type : method.getParameterTypes()) {
            result.append(between).append(type);
            between = ", ";
        }
        result.append(')');
        for (Class<?> type : method.getExceptionTypes()) {
            result.append(' ').append(type.getSimpleName());
        }
        return result.toString();
    }
}

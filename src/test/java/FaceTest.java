import java.lang.reflect.Constructor;
import java.lang.reflect.Field;
import java.lang.reflect.Method;
import java.lang.reflect.Modifier;
import java.util.Arrays;
import java.util.Set;
import java.util.TreeSet;

/** The public face: the methods and exceptions of the document, and nothing else that can be seen. */
final class FaceTest {
    private static final String INDEX = " IndexOutOfBoundsException";
    private static final String ARGUMENT = " IllegalArgumentException";
    private static final String STATE = " IllegalStateException";
    private static final String ELEMENT = " NoSuchElementException";
    private static final String ARITHMETIC = " ArithmeticException";

    private static final String[] FACE = {
        "int addBerth int int int" + INDEX + ARGUMENT + STATE,
        "int addBoat int int int int" + ARGUMENT + STATE,
        "int setTide int int int" + ARGUMENT,
        "int setCradle int int" + ARGUMENT,
        "int tellWeather int int" + ARGUMENT + STATE,
        "int forgetWeather",
        "int level int" + ARGUMENT,
        "boolean isBad int" + ARGUMENT,
        "int floodHours int int" + INDEX + ARGUMENT,
        "int floodByHours int int" + INDEX + ARGUMENT,
        "int nextFlood int" + INDEX + ELEMENT,
        "int lift int int" + INDEX + STATE,
        "char liftReason int int" + INDEX,
        "int launch int" + INDEX + STATE,
        "char launchReason int" + INDEX,
        "int shift int int" + INDEX + STATE,
        "char shiftReason int int" + INDEX,
        "int comeBack int" + INDEX + STATE,
        "int nextWaiting" + ELEMENT,
        "char state int" + INDEX,
        "int berthOf int" + INDEX + ELEMENT,
        "int boatIn int" + INDEX + ELEMENT,
        "int paint int int" + INDEX + ARGUMENT + STATE,
        "int dryLeft int" + INDEX,
        "int dryAt int" + INDEX,
        "int dryByHours int" + INDEX,
        "int pass int" + ARGUMENT,
        "int time",
        "int leastShifted int" + INDEX + STATE + ELEMENT,
        "int leastByRounds int" + INDEX + STATE + ELEMENT,
        "long movedWeight",
        "float usedShare" + ARITHMETIC,
        "double meanDraught" + ARITHMETIC,
    };

    private static String faceOf(Method method) {
        StringBuilder text = new StringBuilder(method.getReturnType().getSimpleName());
        text.append(' ').append(method.getName());
        for (Class<?> type : method.getParameterTypes()) {
            text.append(' ').append(type.getSimpleName());
        }
        for (Class<?> type : method.getExceptionTypes()) {
            text.append(' ').append(type.getSimpleName());
        }
        return text.toString();
    }

    private static Set<String> seen() {
        Set<String> seen = new TreeSet<>();
        Set<String> names = new TreeSet<>();
        for (Method method : BoatCradle.class.getDeclaredMethods()) {
            if (Modifier.isPrivate(method.getModifiers())) {
                continue;
            }
            seen.add(Modifier.toString(method.getModifiers()) + " " + faceOf(method));
            names.add(method.getName());
        }
        for (Method method : BoatCradle.class.getDeclaredMethods()) {
            if (Modifier.isPrivate(method.getModifiers()) && names.contains(method.getName())) {
                seen.add("a private method " + method.getName());
            }
        }
        for (Field field : BoatCradle.class.getDeclaredFields()) {
            if (!Modifier.isPrivate(field.getModifiers())) {
                seen.add("a field " + field.getName());
            }
        }
        for (Constructor<?> constructor : BoatCradle.class.getDeclaredConstructors()) {
            seen.add(constructor.toString());
        }
        return seen;
    }

    public static void main(String[] args) {
        Set<String> due = new TreeSet<>();
        for (String method : FACE) {
            due.add("public " + method);
        }
        due.add("public BoatCradle()");
        Expect.due("the face", due, () -> seen());
        Expect.due("the class", "public final", () -> Modifier.toString(BoatCradle.class.getModifiers()));
        for (Class<?> inside : BoatCradle.class.getDeclaredClasses()) {
            Expect.due("the class " + inside.getSimpleName(), true,
                () -> Modifier.isStatic(inside.getModifiers()) && !Modifier.isPublic(inside.getModifiers()));
        }
        Expect.due("classes inside, at most 12", true, () -> BoatCradle.class.getDeclaredClasses().length <= 12);
        Expect.due("interfaces", "[]", () -> Arrays.toString(BoatCradle.class.getInterfaces()));
        Expect.end();
    }
}

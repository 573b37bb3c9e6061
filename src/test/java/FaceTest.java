import java.lang.reflect.Constructor;
import java.lang.reflect.Field;
import java.lang.reflect.Method;
import java.lang.reflect.Modifier;
import java.util.ArrayList;
import java.util.Arrays;
import java.util.List;
import java.util.TreeSet;

/** The public face: the class shows what the document tells, and nothing beside it. */
public final class FaceTest {
    private static final String CONSTANTS = """
            NONE = -1
            PLANNED = 0
            SAILS = 1
            ARRIVED = 2
            CANCELLED = 3
            WAITS = 0
            ABOARD = 1
            LANDED = 2
            LEFT = 3
            """;
    private static final String METHODS = """
            int pier(int, int, int, boolean) IllegalArgument IllegalState
            int boat(int, int, int, int, int, int, int) IndexOutOfBounds IllegalArgument IllegalState
            int swell(int, int) IndexOutOfBounds IllegalArgument
            boolean breakDown(int) IndexOutOfBounds
            int relieve(int, int) IndexOutOfBounds IllegalArgument
            int sailing(int, int, int, int, int, boolean) IndexOutOfBounds IllegalArgument IllegalState
            int book(int, int, int, int, int, boolean, boolean) IndexOutOfBounds IllegalArgument IllegalState
            int rate(int, int) IndexOutOfBounds IllegalArgument
            int pass(int) IllegalArgument
            int tide(int, int) IndexOutOfBounds IllegalArgument
            int boatOf(int, int) IndexOutOfBounds IllegalArgument
            int sailingOf(int, int) IndexOutOfBounds IllegalArgument
            int against(int) IndexOutOfBounds IllegalState
            int bookingOf(int, int) IndexOutOfBounds IllegalArgument
            int plan(int, int, boolean) IndexOutOfBounds
            int gap(int, int) IndexOutOfBounds IllegalArgument
            double performance()
            int penalty()
            """;

    public static void main(String[] args) {
        classIsPublicAndFinal();
        constants();
        constructor();
        methods();
        nestedClassesAreStatic();
        noPrivateMethodBearsAPublicName();
        Check.end();
    }

    private static void same(Object want, Object got) {
        if (!want.equals(got)) {
            System.out.println("due: " + want + "\ngot: " + got);
        }
        Check.yes(true, () -> want.equals(got));
    }

    private static void classIsPublicAndFinal() {
        int modifiers = IsleBoats.class.getModifiers();
        Check.yes(true, () -> Modifier.isPublic(modifiers));
        Check.yes(true, () -> Modifier.isFinal(modifiers));
        Check.yes(true, () -> IsleBoats.class.getPackageName().isEmpty());
        same(Object.class, IsleBoats.class.getSuperclass());
        Check.due(0, () -> IsleBoats.class.getInterfaces().length);
    }

    private static void constants() {
        TreeSet<String> told = new TreeSet<>();
        for (Field field : IsleBoats.class.getDeclaredFields()) {
            if (!Modifier.isPrivate(field.getModifiers()) && !field.isSynthetic()) {
                told.add(constant(field));
            }
        }
        same(new TreeSet<>(CONSTANTS.lines().toList()), told);
    }

    private static String constant(Field field) {
        boolean isFine = field.getModifiers() == (Modifier.PUBLIC | Modifier.STATIC | Modifier.FINAL)
                && field.getType() == int.class;
        try {
            return isFine ? field.getName() + " = " + field.getInt(null) : "not a constant: " + field;
        } catch (IllegalAccessException hidden) {
            return "not to be seen: " + field;
        }
    }

    private static void constructor() {
        Constructor<?>[] all = IsleBoats.class.getDeclaredConstructors();
        Check.due(1, () -> all.length);
        Check.due(0, () -> all[0].getParameterCount());
        Check.due(Modifier.PUBLIC, () -> all[0].getModifiers());
        Check.due(0, () -> all[0].getExceptionTypes().length);
    }

    private static void methods() {
        TreeSet<String> told = new TreeSet<>();
        for (Method method : IsleBoats.class.getDeclaredMethods()) {
            if (!Modifier.isPrivate(method.getModifiers()) && !method.isSynthetic()) {
                told.add(line(method));
            }
        }
        same(new TreeSet<>(METHODS.lines().toList()), told);
    }

    private static String line(Method method) {
        List<String> types = new ArrayList<>();
        for (Class<?> type : method.getParameterTypes()) {
            types.add(type.getName());
        }
        StringBuilder line = new StringBuilder(method.getModifiers() == Modifier.PUBLIC ? "" : "not just public: ");
        line.append(method.getReturnType().getName()).append(' ').append(method.getName());
        line.append('(').append(String.join(", ", types)).append(')');
        for (Class<?> thrown : method.getExceptionTypes()) {
            line.append(' ').append(thrown.getSimpleName().replace("Exception", ""));
        }
        return line.toString();
    }

    private static void nestedClassesAreStatic() {
        for (Class<?> nested : IsleBoats.class.getDeclaredClasses()) {
            int modifiers = nested.getModifiers();
            Check.yes(true, () -> Modifier.isStatic(modifiers));
            Check.yes(false, () -> Modifier.isPublic(modifiers) || Modifier.isProtected(modifiers));
        }
    }

    private static void noPrivateMethodBearsAPublicName() {
        TreeSet<String> names = new TreeSet<>();
        for (String line : METHODS.lines().toList()) {
            names.add(line.substring(line.indexOf(' ') + 1, line.indexOf('(')));
        }
        List<Class<?>> all = new ArrayList<>(Arrays.asList(IsleBoats.class.getDeclaredClasses()));
        all.add(IsleBoats.class);
        for (Class<?> one : all) {
            for (Method method : one.getDeclaredMethods()) {
                boolean isOwn = one != IsleBoats.class || Modifier.isPrivate(method.getModifiers());
                Check.yes(false, () -> isOwn && names.contains(method.getName()));
            }
        }
    }
}

import java.lang.reflect.Constructor;
import java.lang.reflect.Field;
import java.lang.reflect.Method;
import java.lang.reflect.Modifier;
import java.util.Arrays;
import java.util.Set;
import java.util.TreeSet;
import java.util.stream.Collectors;

/** The public face is the document's, and nothing else can be seen from outside. */
final class FaceTest {
    private static final String[] FACE = {
        "public static final int NONE",
        "public TileShares(int, int)",
        "public int share(int, int, int, long) IndexOutOfBoundsException IllegalArgumentException",
        "public int need(int, int, int, int)"
            + " IndexOutOfBoundsException IllegalArgumentException UnsupportedOperationException",
        "public int free(int) IndexOutOfBoundsException",
        "public int failing(int, int, int, int)"
            + " IndexOutOfBoundsException IllegalArgumentException UnsupportedOperationException",
        "public int stop(int) IndexOutOfBoundsException",
        "public int run(int, long) IllegalArgumentException",
        "public long at(int) IndexOutOfBoundsException IllegalStateException",
        "public int order(int) IndexOutOfBoundsException",
        "public int begun(int) IndexOutOfBoundsException",
        "public int waited(int, int) IndexOutOfBoundsException",
        "public int told(int)",
        "public void clear()",
    };
    private static final Set<String> FACE_NAMES = Arrays.stream(TileShares.class.getMethods())
            .filter(method -> method.getDeclaringClass() == TileShares.class)
            .map(Method::getName).collect(Collectors.toSet());

    private static final Check CHECK = new Check();

    public static void main(String[] args) {
        CHECK.dueText("the class", "public final", Modifier.toString(TileShares.class.getModifiers()));
        CHECK.due("NONE", -1, TileShares.NONE);
        CHECK.dueText("the face", String.join("\n", new TreeSet<>(Arrays.asList(FACE))), visibleMembers());
        staticFieldsAreFinal(TileShares.class);
        for (Class<?> inside : TileShares.class.getDeclaredClasses()) {
            int modifiers = inside.getModifiers();
            CHECK.dueTrue(inside.getSimpleName() + " is static and not public", Modifier.isStatic(modifiers)
                    && !Modifier.isPublic(modifiers) && !Modifier.isProtected(modifiers));
            staticFieldsAreFinal(inside);
            methodsHaveNamesOfTheirOwn(inside);
        }
        methodsHaveNamesOfTheirOwn(TileShares.class);
        CHECK.close("FaceTest");
    }

    private static void staticFieldsAreFinal(Class<?> type) {
        for (Field field : type.getDeclaredFields()) {
            int modifiers = field.getModifiers();
            CHECK.dueTrue(field.getName() + " is final if it is static",
                    !Modifier.isStatic(modifiers) || Modifier.isFinal(modifiers));
        }
    }

    /** LANGUAGE.md, rule 1: none but a call of the face bears its name. */
    private static void methodsHaveNamesOfTheirOwn(Class<?> type) {
        for (Method method : type.getDeclaredMethods()) {
            boolean isOfTheFace = type == TileShares.class && Modifier.isPublic(method.getModifiers());
            CHECK.dueTrue(method.getName() + " is no name of the face",
                    isOfTheFace || !FACE_NAMES.contains(method.getName()));
        }
    }

    private static String visibleMembers() {
        TreeSet<String> members = new TreeSet<>();
        for (Field field : TileShares.class.getDeclaredFields()) {
            if (!Modifier.isPrivate(field.getModifiers())) {
                members.add(Modifier.toString(field.getModifiers()) + " " + field.getType() + " " + field.getName());
            }
        }
        for (Constructor<?> made : TileShares.class.getDeclaredConstructors()) {
            if (!Modifier.isPrivate(made.getModifiers())) {
                members.add(Modifier.toString(made.getModifiers()) + " " + made.getName()
                        + names(made.getParameterTypes(), ", ", "(", ")"));
            }
        }
        for (Method method : TileShares.class.getDeclaredMethods()) {
            if (!Modifier.isPrivate(method.getModifiers())) {
                members.add(Modifier.toString(method.getModifiers()) + " " + method.getReturnType() + " "
                        + method.getName() + names(method.getParameterTypes(), ", ", "(", ")")
                        + thrownBy(method));
            }
        }
        return String.join("\n", members);
    }

    private static String thrownBy(Method method) {
        Class<?>[] thrown = method.getExceptionTypes();
        return thrown.length == 0 ? "" : names(thrown, " ", " ", "");
    }

    private static String names(Class<?>[] types, String between, String before, String behind) {
        return Arrays.stream(types).map(Class::getSimpleName)
                .collect(Collectors.joining(between, before, behind));
    }
}

import java.lang.reflect.Constructor;
import java.lang.reflect.Field;
import java.lang.reflect.Method;
import java.lang.reflect.Modifier;
import java.util.Arrays;
import java.util.TreeSet;
import java.util.stream.Collectors;

/** The public face is the document's, and nothing else can be seen from outside. */
final class FaceTest {
    private static final String[] FACE = {
        "public static final int NONE",
        "public TileShares(int, int)",
        "public int share(int, int, int, long) IndexOutOfBoundsException IllegalArgumentException",
        "public int need(int, int, int, int)"
            + " IndexOutOfBoundsException IllegalArgumentException UnsupportedOperationException",
        "public int free(int) IndexOutOfBoundsException",
        "public int failing(int, int, int, int)"
            + " IndexOutOfBoundsException IllegalArgumentException UnsupportedOperationException",
        "public int stop(int) IndexOutOfBoundsException",
        "public int run(int, long) IllegalArgumentException",
        "public long at(int) IndexOutOfBoundsException IllegalStateException",
        "public int order(int) IndexOutOfBoundsException",
        "public int begun(int) IndexOutOfBoundsException",
        "public int waited(int, int) IndexOutOfBoundsException",
        "public int told(int)",
        "public void clear()",
    };

    public static void main(String[] args) {
        Check check = new Check();
        check.dueText("the class", "public final", Modifier.toString(TileShares.class.getModifiers()));
        check.due("NONE", -1, TileShares.NONE);
        check.dueText("the face", String.join("\n", new TreeSet<>(Arrays.asList(FACE))), visibleMembers());
        for (Class<?> inside : TileShares.class.getDeclaredClasses()) {
            int modifiers = inside.getModifiers();
            check.dueText(inside.getSimpleName() + " is static and not public", "true",
                    String.valueOf(Modifier.isStatic(modifiers)
                            && !Modifier.isPublic(modifiers) && !Modifier.isProtected(modifiers)));
        }
        check.close("FaceTest");
    }

    private static String visibleMembers() {
        TreeSet<String> members = new TreeSet<>();
        for (Field field : TileShares.class.getDeclaredFields()) {
            if (!Modifier.isPrivate(field.getModifiers())) {
                members.add(Modifier.toString(field.getModifiers()) + " " + field.getType() + " " + field.getName());
            }
        }
        for (Constructor<?> made : TileShares.class.getDeclaredConstructors()) {
            if (!Modifier.isPrivate(made.getModifiers())) {
                members.add(Modifier.toString(made.getModifiers()) + " " + made.getName()
                        + names(made.getParameterTypes(), ", ", "(", ")"));
            }
        }
        for (Method method : TileShares.class.getDeclaredMethods()) {
            if (!Modifier.isPrivate(method.getModifiers())) {
                members.add(Modifier.toString(method.getModifiers()) + " " + method.getReturnType() + " "
                        + method.getName() + names(method.getParameterTypes(), ", ", "(", ")")
                        + thrownBy(method));
            }
        }
        return String.join("\n", members);
    }

    private static String thrownBy(Method method) {
        Class<?>[] thrown = method.getExceptionTypes();
        return thrown.length == 0 ? "" : names(thrown, " ", " ", "");
    }

    private static String names(Class<?>[] types, String between, String before, String behind) {
        return Arrays.stream(types).map(Class::getSimpleName)
                .collect(Collectors.joining(between, before, behind));
    }
}

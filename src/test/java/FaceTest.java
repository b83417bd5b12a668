import java.lang.reflect.Constructor;
import java.lang.reflect.Field;
import java.lang.reflect.Method;
import java.lang.reflect.Modifier;
import java.util.ArrayList;
import java.util.Arrays;
import java.util.Collections;
import java.util.List;

/** The public face: just the members of the document, with what they throw, and no other that is not private. */
public final class FaceTest {
    private static final String[] FACE = {
        "int CLEAN = 0", "int FOUND = 1", "int FUEL = 2", "int OUTSIDE = 3", "MarloweHost()",
        "int feed(int, int, int, int, int) IndexOutOfBoundsException",
        "int end(int) IndexOutOfBoundsException IllegalArgumentException",
        "int wrong()",
        "long wallet(int, int, long) IllegalArgumentException",
        "int deposit(int, int, int, long) IllegalArgumentException IndexOutOfBoundsException",
        "int choose(int, long) IllegalArgumentException IndexOutOfBoundsException",
        "int remind() IndexOutOfBoundsException",
        "int apply(long, long) IllegalStateException",
        "int told(int, int) IllegalArgumentException IndexOutOfBoundsException",
        "long paid(int) IndexOutOfBoundsException",
        "long state(int, int, int) IllegalArgumentException IllegalStateException",
        "int analyse() IllegalStateException",
        "long step(int, int) IllegalArgumentException IndexOutOfBoundsException",
        "int count(int) IllegalArgumentException"};

    public static void main(String[] args) throws IllegalAccessException {
        Class<?> type = MarloweHost.class;
        List<String> members = new ArrayList<>();
        for (Field field : type.getDeclaredFields()) {
            if (!Modifier.isPrivate(field.getModifiers())) {
                members.add(field.getType() + " " + field.getName() + " = " + field.get(null));
            }
        }
        for (Constructor<?> made : type.getDeclaredConstructors()) {
            members.add(made.getName() + types(made.getParameterTypes()));
        }
        List<String> publicNames = new ArrayList<>();
        for (Method method : type.getDeclaredMethods()) {
            if (!Modifier.isPrivate(method.getModifiers())) {
                publicNames.add(method.getName());
                StringBuilder text = new StringBuilder(method.getReturnType() + " " + method.getName() + types(method.getParameterTypes()));
                for (Class<?> thrown : method.getExceptionTypes()) {
                    text.append(' ').append(thrown.getSimpleName());
                }
                members.add(text.toString());
            }
        }
        List<String> due = new ArrayList<>(Arrays.asList(FACE));
        Collections.sort(due);
        Collections.sort(members);
        Expect.same("the face", due.toString(), members.toString());
        Expect.is("public", 1, () -> Modifier.isPublic(type.getModifiers()) ? 1 : 0);
        Expect.is("final", 1, () -> Modifier.isFinal(type.getModifiers()) ? 1 : 0);
        for (Class<?> inside : type.getDeclaredClasses()) {
            Expect.is(inside.getName() + " is static", 1, () -> Modifier.isStatic(inside.getModifiers()) ? 1 : 0);
            for (Method method : inside.getDeclaredMethods()) {
                Expect.same(inside.getName() + "." + method.getName(), "a name of its own",
                        publicNames.contains(method.getName()) ? "a name of the face" : "a name of its own");
            }
        }
        Expect.finish();
    }

    private static String types(Class<?>[] types) {
        List<String> names = new ArrayList<>();
        for (Class<?> type : types) {
            names.add(type.getSimpleName());
        }
        return "(" + String.join(", ", names) + ")";
    }
}

import java.lang.reflect.Constructor;
import java.lang.reflect.Field;
import java.lang.reflect.Member;
import java.lang.reflect.Method;
import java.lang.reflect.Modifier;
import java.util.Arrays;
import java.util.TreeSet;

/** The class has the document's face and shows nothing else. */
public final class FaceTest {
    private static final String[] FACE = {
        "boolean delete(int)",
        "boolean fail(int)",
        "int add(int) IllegalArgumentException IllegalStateException",
        "int at(int, int)",
        "int buffered()",
        "int combine(int) IllegalArgumentException NoSuchElementException IllegalStateException",
        "int commit() IllegalStateException",
        "int count() NoSuchElementException",
        "int discard() NoSuchElementException",
        "int documents()",
        "int free()",
        "int match(int) NoSuchElementException",
        "int merge(int, int) IllegalArgumentException IllegalStateException",
        "int places(int) NoSuchElementException",
        "int segments()",
        "int size(int)",
        "int type(int) IllegalArgumentException IllegalStateException",
        "int want(int) IllegalArgumentException IllegalStateException",
    };

    public static void main(String[] args) {
        Check check = new Check();
        check.same("the class", Modifier.toString(PostingShelf.class.getModifiers()), "public final");
        checkConstants(check);
        checkMethods(check);
        checkConstructors(check);
        checkClassesInside(check);
        check.end("FaceTest");
    }

    private static void checkConstants(Check check) {
        check.due("CUT", () -> PostingShelf.CUT, -1);
        check.due("NONE", () -> PostingShelf.NONE, -2);
        TreeSet<String> open = new TreeSet<>();
        for (Field field : PostingShelf.class.getDeclaredFields()) {
            if (isOpen(field)) {
                open.add(Modifier.toString(field.getModifiers()) + " " + field.getType() + " " + field.getName());
            }
            check.holds(field.getName() + " is no static state",
                !Modifier.isStatic(field.getModifiers()) || Modifier.isFinal(field.getModifiers()));
        }
        check.same("constants", open.toString(), "[public static final int CUT, public static final int NONE]");
    }

    private static void checkMethods(Check check) {
        TreeSet<String> open = new TreeSet<>();
        TreeSet<String> openNames = new TreeSet<>();
        for (Method method : PostingShelf.class.getDeclaredMethods()) {
            if (isOpen(method)) {
                open.add(described(method));
                openNames.add(method.getName());
                check.holds(method.getName() + " is public", Modifier.isPublic(method.getModifiers()));
                check.holds(method.getName() + " is not static", !Modifier.isStatic(method.getModifiers()));
            }
        }
        check.same("methods", open.toString(), new TreeSet<>(Arrays.asList(FACE)).toString());
        for (Method method : PostingShelf.class.getDeclaredMethods()) {
            check.holds("private " + method.getName() + " has a name of its own",
                isOpen(method) || !openNames.contains(method.getName()));
        }
    }

    private static void checkConstructors(Check check) {
        Constructor<?>[] all = PostingShelf.class.getDeclaredConstructors();
        check.due("constructors", () -> all.length, 1);
        check.same("constructor", all[0].toString(), "public PostingShelf(int)");
    }

    private static void checkClassesInside(Check check) {
        for (Class<?> inside : PostingShelf.class.getDeclaredClasses()) {
            int modifiers = inside.getModifiers();
            check.holds(inside.getName() + " is static", Modifier.isStatic(modifiers));
            check.holds(inside.getName() + " is not for all",
                !Modifier.isPublic(modifiers) && !Modifier.isProtected(modifiers));
        }
    }

    private static boolean isOpen(Member member) {
        return !Modifier.isPrivate(member.getModifiers()) && !member.isSynthetic();
    }

    private static String described(Method method) {
        StringBuilder text = new StringBuilder();
        text.append(method.getReturnType()).append(' ').append(method.getName()).append('(');
        for (int i = 0; i < method.getParameterCount(); i++) {
            text.append(i == 0 ? "" : ", ").append(method.getParameterTypes()[i]);
        }
        text.append(')');
        for (Class<?> thrown : method.getExceptionTypes()) {
            text.append(' ').append(thrown.getSimpleName());
        }
        return text.toString();
    }
}

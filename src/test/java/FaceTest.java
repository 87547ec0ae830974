import java.lang.reflect.Constructor;
import java.lang.reflect.Executable;
import java.lang.reflect.Field;
import java.lang.reflect.Member;
import java.lang.reflect.Method;
import java.lang.reflect.Modifier;
import java.util.Set;
import java.util.StringJoiner;
import java.util.TreeSet;

/** The public face: the document's constructor and methods with the exceptions they name, and no other member. */
public final class FaceTest {
    private FaceTest() {
    }

    public static void main(String[] args) {
        Set<String> due = new TreeSet<>(Set.of("TraceWarden()", "int text(long)", "void wipe()",
            "int compile() IllegalArgumentException UnsupportedOperationException", "int fault()",
            "int size(int) IllegalStateException IllegalArgumentException",
            "int next(int,int) IllegalStateException NoSuchElementException",
            "boolean output(int,int,int) IllegalStateException IndexOutOfBoundsException",
            "boolean begin() IllegalStateException", "int step(int) IllegalStateException IllegalArgumentException",
            "int time()", "int window()", "boolean loop(int) IllegalStateException IndexOutOfBoundsException",
            "int report()", "char said(int)"));
        Set<String> face = new TreeSet<>();
        for (Constructor<?> made : TraceWarden.class.getDeclaredConstructors()) {
            add(face, made, "TraceWarden");
        }
        for (Method method : TraceWarden.class.getDeclaredMethods()) {
            add(face, method, method.getReturnType().getSimpleName() + " " + method.getName());
        }
        for (Field field : TraceWarden.class.getDeclaredFields()) {
            if (isSeen(field)) {
                face.add("field " + field.getName());
            }
        }
        Checks.same("the face", due, face);
        int modifiers = TraceWarden.class.getModifiers();
        Checks.same("the class is public and final", true, Modifier.isPublic(modifiers) && Modifier.isFinal(modifiers));
        for (Class<?> inside : TraceWarden.class.getDeclaredClasses()) {
            Checks.same(inside.getName() + " is not of the face", false, Modifier.isPublic(inside.getModifiers()));
        }
        Checks.finish();
    }

    private static boolean isSeen(Member member) {
        return !Modifier.isPrivate(member.getModifiers()) && !member.isSynthetic();
    }

    private static void add(Set<String> face, Executable member, String name) {
        if (!isSeen(member)) {
            return;
        }
        StringJoiner words = new StringJoiner(",", name + "(", ")");
        for (Class<?> type : member.getParameterTypes()) {
            words.add(type.getSimpleName());
        }
        StringBuilder all = new StringBuilder(words.toString());
        for (Class<?> thrown : member.getExceptionTypes()) {
            all.append(' ').append(thrown.getSimpleName());
        }
        face.add(all.toString());
    }
}

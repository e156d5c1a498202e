import java.lang.reflect.Constructor;
import java.lang.reflect.Executable;
import java.lang.reflect.Field;
import java.lang.reflect.Method;
import java.lang.reflect.Modifier;
import java.util.ArrayList;
import java.util.Arrays;
import java.util.List;

/** The document's section "The public face": all of it is there, as it is written, and nothing more. */
public final class FaceTest {
    private static final Checks checks = new Checks();

    private static final String[] FACE = {
        "public TextDesk()",
        "public int unit(int) throws IllegalArgumentException, IllegalStateException",
        "public int insert(int, int) throws IllegalArgumentException, IllegalStateException",
        "public void delete(int, int) throws IndexOutOfBoundsException",
        "public void reverse()",
        "public int built(int) throws IndexOutOfBoundsException",
        "public int take() throws IllegalStateException",
        "public int join(int, int) throws IllegalArgumentException, IllegalStateException",
        "public int part(int, int, int)"
            + " throws IllegalArgumentException, IndexOutOfBoundsException, IllegalStateException",
        "public int replace(int, int, int) throws IllegalArgumentException, IllegalStateException",
        "public int strip(int) throws IllegalArgumentException, IllegalStateException",
        "public int at(int, int) throws IllegalArgumentException, IndexOutOfBoundsException",
        "public int character(int, int) throws IllegalArgumentException, IndexOutOfBoundsException",
        "public boolean narrow(int) throws IllegalArgumentException",
        "public int hash(int) throws IllegalArgumentException",
        "public int compare(int, int) throws IllegalArgumentException",
        "public int find(int, int, int, boolean) throws IllegalArgumentException",
        "public int symbol(int) throws IllegalArgumentException, IllegalStateException",
        "public int encode(int, int) throws IllegalArgumentException",
        "public int type(int) throws IllegalArgumentException, IllegalStateException",
        "public int decode(int, boolean)"
            + " throws IllegalArgumentException, UnsupportedOperationException, IllegalStateException",
        "public int octet(int) throws IndexOutOfBoundsException",
        "public void clear()",
    };

    public static void main(String[] args) {
        publicFinalClass();
        membersOfTheFace();
        fieldsAreHidden();
        noHiddenMethodBearsANameOfTheFace();
        classesInsideAreStatic();
        checks.end();
    }

    /** "public final class TextDesk". */
    private static void publicFinalClass() {
        checks.same("the class", Modifier.toString(TextDesk.class.getModifiers()), "public final");
        checks.same("its package", TextDesk.class.getPackageName(), "");
        checks.same("the class above it", TextDesk.class.getSuperclass().getName(), "java.lang.Object");
        checks.due("its interfaces", 0, () -> TextDesk.class.getInterfaces().length);
    }

    private static void membersOfTheFace() {
        List<String> seen = new ArrayList<>();
        for (Constructor<?> constructor : TextDesk.class.getDeclaredConstructors()) {
            addIfSeen(seen, constructor, "TextDesk");
        }
        for (Method method : TextDesk.class.getDeclaredMethods()) {
            addIfSeen(seen, method, method.getReturnType().getSimpleName() + " " + method.getName());
        }
        for (String member : FACE) {
            checks.due(member, 1, () -> seen.contains(member) ? 1 : 0);
        }
        seen.removeAll(Arrays.asList(FACE));
        checks.same("what else can be seen", seen.toString(), "[]");
    }

    private static void addIfSeen(List<String> seen, Executable member, String name) {
        if (Modifier.isPrivate(member.getModifiers()) || member.isSynthetic()) {
            return;
        }
        String text = name + "(" + names(member.getParameterTypes()) + ")";
        String thrown = names(member.getExceptionTypes());
        String modifiers = Modifier.toString(member.getModifiers());
        seen.add((modifiers + " " + text).trim() + (thrown.isEmpty() ? "" : " throws " + thrown));
    }

    private static String names(Class<?>[] types) {
        List<String> names = new ArrayList<>();
        for (Class<?> type : types) {
            names.add(type.getSimpleName());
        }
        return String.join(", ", names);
    }

    /** The document's face has no constant, and what is static never changes. */
    private static void fieldsAreHidden() {
        for (Field field : TextDesk.class.getDeclaredFields()) {
            int modifiers = field.getModifiers();
            checks.due("private: " + field.getName(), 1, () -> Modifier.isPrivate(modifiers) ? 1 : 0);
            boolean changes = Modifier.isStatic(modifiers) && !Modifier.isFinal(modifiers);
            checks.due("static and not final: " + field.getName(), 0, () -> changes ? 1 : 0);
        }
    }

    private static void noHiddenMethodBearsANameOfTheFace() {
        String face = String.join(" ", FACE);
        for (Method method : TextDesk.class.getDeclaredMethods()) {
            boolean hidden = !Modifier.isPublic(method.getModifiers());
            boolean bearsName = hidden && face.contains(" " + method.getName() + "(");
            checks.due("its name is its own: " + method.getName(), 0, () -> bearsName ? 1 : 0);
        }
    }

    private static void classesInsideAreStatic() {
        for (Class<?> inside : TextDesk.class.getDeclaredClasses()) {
            int modifiers = inside.getModifiers();
            boolean fits = Modifier.isStatic(modifiers) && !Modifier.isPublic(modifiers)
                    && !Modifier.isProtected(modifiers);
            checks.due("static and hidden: " + inside.getSimpleName(), 1, () -> fits ? 1 : 0);
        }
    }
}

import java.lang.reflect.Constructor;
import java.lang.reflect.Field;
import java.lang.reflect.Method;
import java.lang.reflect.Modifier;
import java.util.Arrays;
import java.util.TreeSet;

/** The public face: its constant, its constructor and its methods, and nothing else that can be seen. */
public final class FaceTest {
    private static final String[] FACE = {
        "public int put(int,int,int,int) IndexOutOfBoundsException IllegalStateException",
        "public int takeOff(int) IndexOutOfBoundsException IllegalStateException",
        "public int move(int,int,int) IndexOutOfBoundsException IllegalStateException",
        "public int clearDoor(int) IndexOutOfBoundsException",
        "public int borrow(int,int,int,int) IndexOutOfBoundsException IllegalArgumentException IllegalStateException",
        "public int bringBack(int,int) IndexOutOfBoundsException IllegalStateException",
        "public int sleep(int) IllegalArgumentException IllegalStateException",
        "public int set(int,int) IndexOutOfBoundsException IllegalArgumentException",
        "public int append(int) IllegalArgumentException IllegalStateException",
        "public int clearBuffer()",
        "public int firstError()",
        "public int load(int) IndexOutOfBoundsException IllegalArgumentException",
        "public int write(int) IndexOutOfBoundsException",
        "public int keep(int) IllegalArgumentException",
        "public int goBack(int) IllegalArgumentException IllegalStateException",
        "public int undo() IllegalStateException",
        "public int wordOf(int,int) IndexOutOfBoundsException IllegalArgumentException",
        "public int at(int,int,int) IndexOutOfBoundsException",
        "public int lineOf(int,int,int) IndexOutOfBoundsException IllegalArgumentException",
        "public int doorOf(int,int) IndexOutOfBoundsException IllegalArgumentException",
        "public int count(int) IllegalArgumentException",
        "public int setting(int) IndexOutOfBoundsException",
        "public int whyNot(int,int,int,int) IndexOutOfBoundsException",
        "public int bestWord(int,int) IndexOutOfBoundsException",
        "public int prey()",
        "public int ifSlept(int,int) IndexOutOfBoundsException IllegalArgumentException",
        "public double shownShare()",
        "public long digest()",
    };

    private static String told(Method method) {
        StringBuilder text = new StringBuilder();
        text.append(Modifier.toString(method.getModifiers())).append(' ');
        text.append(method.getReturnType().getSimpleName()).append(' ').append(method.getName()).append('(');
        for (int i = 0; i < method.getParameterCount(); i++) {
            text.append(i == 0 ? "" : ",").append(method.getParameterTypes()[i].getSimpleName());
        }
        text.append(')');
        for (Class<?> thrown : method.getExceptionTypes()) {
            text.append(' ').append(thrown.getSimpleName());
        }
        return text.toString();
    }

    private static TreeSet<String> visibleMembers() {
        TreeSet<String> members = new TreeSet<>();
        for (Method method : MagnetPoems.class.getDeclaredMethods()) {
            if (!Modifier.isPrivate(method.getModifiers()) && !method.isSynthetic()) {
                members.add(told(method));
            }
        }
        for (Field field : MagnetPoems.class.getDeclaredFields()) {
            if (!Modifier.isPrivate(field.getModifiers())) {
                members.add(Modifier.toString(field.getModifiers()) + " " + field.getType() + " " + field.getName());
            }
        }
        for (Constructor<?> constructor : MagnetPoems.class.getDeclaredConstructors()) {
            members.add(constructor.toString());
        }
        return members;
    }

    /** LANGUAGE.md, rule 1: no private method bears the name of a public one. */
    private static TreeSet<String> namesBorneTwice() {
        TreeSet<String> open = new TreeSet<>();
        TreeSet<String> hidden = new TreeSet<>();
        for (Method method : MagnetPoems.class.getDeclaredMethods()) {
            (Modifier.isPrivate(method.getModifiers()) ? hidden : open).add(method.getName());
        }
        hidden.retainAll(open);
        return hidden;
    }

    public static void main(String[] args) {
        TreeSet<String> due = new TreeSet<>(Arrays.asList(FACE));
        due.add("public static final int NONE");
        due.add("public MagnetPoems()");
        Checks checks = new Checks();
        checks.dueOutcome("the face", visibleMembers().toString(), due.toString());
        checks.dueOutcome("the class", Modifier.toString(MagnetPoems.class.getModifiers()), "public final");
        checks.dueOutcome("names borne twice", namesBorneTwice().toString(), "[]");
        checks.due("NONE", MagnetPoems.NONE, -1);
        checks.end();
    }
}

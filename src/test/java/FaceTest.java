import java.lang.reflect.Constructor;
import java.lang.reflect.Field;
import java.lang.reflect.Method;
import java.lang.reflect.Modifier;
import java.util.Arrays;
import java.util.Set;
import java.util.TreeSet;

/** The public face: just what the document lists, and nothing beside it that another class could see. */
public final class FaceTest {
    private static final Checks CHECKS = new Checks();

    public static void main(String[] args) {
        constants();
        members();
        CHECKS.end();
    }

    private static void constants() {
        CHECKS.sentence("NONE = -1; BAD = -2");
        CHECKS.due("NONE", MethodBook.NONE, -1);
        CHECKS.due("BAD", MethodBook.BAD, -2);
    }

    private static void members() {
        CHECKS.sentence("The public face");
        Class<MethodBook> face = MethodBook.class;
        CHECKS.due("public and final", face.getModifiers(), Modifier.PUBLIC | Modifier.FINAL);
        Set<String> due = new TreeSet<>(Arrays.asList(
            "public static final int NONE", "public static final int BAD", "public MethodBook()",
            "public boolean make(int,int,boolean)", "public boolean put(int,int,int)",
            "public int get(int,int)", "public int size(int)", "public int lookUp(int,int)",
            "public int method()", "public int where()", "public int above(int)",
            "public boolean inherits(int,int)", "public int become(int,int)", "public int users(int)",
            "public int senders(int)"));
        Set<String> seen = new TreeSet<>();
        for (Field field : face.getDeclaredFields()) {
            note(seen, field.getModifiers(), field.toString());
        }
        for (Constructor<?> constructor : face.getDeclaredConstructors()) {
            note(seen, constructor.getModifiers(), constructor.toString());
        }
        for (Method method : face.getDeclaredMethods()) {
            note(seen, method.getModifiers(), method.toString());
        }
        CHECKS.due("the members that can be seen, " + seen + ", are those of " + due, seen.equals(due), true);
    }

    private static void note(Set<String> seen, int modifiers, String member) {
        if (!Modifier.isPrivate(modifiers)) {
            seen.add(member.replace("MethodBook.", ""));
        }
    }
}

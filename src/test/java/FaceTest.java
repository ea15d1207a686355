import java.lang.reflect.Constructor;
import java.lang.reflect.Field;
import java.lang.reflect.Method;
import java.lang.reflect.Modifier;
import java.util.TreeSet;

/** The class shows the document's face and nothing else. */
public final class FaceTest {
    private static final String[] FACE = {
        "public boolean EventLineDesk.add(int)",
        "public boolean EventLineDesk.back(int)",
        "public boolean EventLineDesk.begin(int)",
        "public boolean EventLineDesk.text(int)",
        "public int EventLineDesk.count(int)",
        "public int EventLineDesk.end()",
        "public int EventLineDesk.mark()",
        "public long EventLineDesk.take()",
        "public EventLineDesk()",
    };

    public static void main(String[] args) {
        TreeSet<String> seen = new TreeSet<>();
        for (Constructor<?> constructor : EventLineDesk.class.getDeclaredConstructors()) {
            keepIfSeen(seen, constructor.getModifiers(), constructor.toString());
        }
        for (Method method : EventLineDesk.class.getDeclaredMethods()) {
            keepIfSeen(seen, method.getModifiers(), method.toString());
        }
        for (Field field : EventLineDesk.class.getDeclaredFields()) {
            keepIfSeen(seen, field.getModifiers(), field.toString());
        }
        int modifiers = EventLineDesk.class.getModifiers();
        boolean rightClass = Modifier.isPublic(modifiers) && Modifier.isFinal(modifiers);
        if (!rightClass || !seen.equals(new TreeSet<>(java.util.List.of(FACE)))) {
            System.out.println("the face is " + Modifier.toString(modifiers) + " with " + seen);
            System.exit(1);
        }
    }

    private static void keepIfSeen(TreeSet<String> seen, int modifiers, String member) {
        if (!Modifier.isPrivate(modifiers)) {
            seen.add(member);
        }
    }
}

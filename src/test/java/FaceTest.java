import java.lang.reflect.Constructor;
import java.lang.reflect.Field;
import java.lang.reflect.Method;
import java.lang.reflect.Modifier;
import java.util.TreeSet;

/** The class shows the document's face and nothing else (rules 1 and 5 of LANGUAGE.md). */
public final class FaceTest {
    private static final String[] FACE = {
        "public boolean EventLineDesk.add(int)",
        "public boolean EventLineDesk.back(int)",
        "public boolean EventLineDesk.begin(int)",
        "public boolean EventLineDesk.text(int)",
        "public int EventLineDesk.count(int)",
        "public int EventLineDesk.end()",
        "public int EventLineDesk.mark()",
        "public long EventLineDesk.take()",
        "public EventLineDesk()",
    };

    private static boolean right = true;

    public static void main(String[] args) {
        dueFace();
        dueOwnNames();
        dueFinalStatics();
        if (!right) {
            System.exit(1);
        }
    }

    private static void dueFace() {
        TreeSet<String> seen = new TreeSet<>();
        for (Constructor<?> constructor : EventLineDesk.class.getDeclaredConstructors()) {
            keepIfSeen(seen, constructor.getModifiers(), constructor.toString());
        }
        for (Method method : EventLineDesk.class.getDeclaredMethods()) {
            keepIfSeen(seen, method.getModifiers(), method.toString());
        }
        for (Field field : EventLineDesk.class.getDeclaredFields()) {
            keepIfSeen(seen, field.getModifiers(), field.toString());
        }
        int modifiers = EventLineDesk.class.getModifiers();
        boolean rightClass = Modifier.isPublic(modifiers) && Modifier.isFinal(modifiers);
        if (!rightClass || !seen.equals(new TreeSet<>(java.util.List.of(FACE)))) {
            tell("the face is " + Modifier.toString(modifiers) + " with " + seen);
        }
    }

    /** No private method bears the name of a public one. */
    private static void dueOwnNames() {
        TreeSet<String> shown = new TreeSet<>();
        for (Method method : EventLineDesk.class.getDeclaredMethods()) {
            if (Modifier.isPublic(method.getModifiers())) {
                shown.add(method.getName());
            }
        }
        for (Method method : EventLineDesk.class.getDeclaredMethods()) {
            if (Modifier.isPrivate(method.getModifiers()) && shown.contains(method.getName())) {
                tell("a public method's name is also borne by " + method);
            }
        }
    }

    private static void dueFinalStatics() {
        for (Field field : EventLineDesk.class.getDeclaredFields()) {
            if (Modifier.isStatic(field.getModifiers()) && !Modifier.isFinal(field.getModifiers())) {
                tell("not final is " + field);
            }
        }
    }

    private static void tell(String what) {
        right = false;
        System.out.println(what);
    }

    private static void keepIfSeen(TreeSet<String> seen, int modifiers, String member) {
        if (!Modifier.isPrivate(modifiers)) {
            seen.add(member);
        }
    }
}

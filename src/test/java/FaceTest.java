import java.lang.reflect.Constructor;
import java.lang.reflect.Field;
import java.lang.reflect.Method;
import java.lang.reflect.Modifier;
import java.util.ArrayList;
import java.util.Collections;
import java.util.List;

/** The public face is the document's, member by member, and nothing else of the class can be seen from outside. */
public final class FaceTest {
    private static final String[] FACE = {
        "public boolean ReachProver.arrives()",
        "public boolean ReachProver.begin(int)",
        "public boolean ReachProver.holds(int,int,int)",
        "public boolean ReachProver.safe()",
        "public int ReachProver.check()",
        "public int ReachProver.clause(int,int,int)",
        "public int ReachProver.count(int)",
        "public int ReachProver.depth(int)",
        "public int ReachProver.drop(int)",
        "public int ReachProver.flaw()",
        "public int ReachProver.reached()",
        "public int ReachProver.steps()",
        "public int ReachProver.switches()",
        "public int ReachProver.walk(int)",
        "public int ReachProver.worst()",
        "public ReachProver()",
        "public static final int ReachProver.NONE",
    };

    public static void main(String[] args) {
        Due due = new Due();
        due.about("the face");
        due.number("NONE", ReachProver.NONE, -1);
        due.truth("NONE can stand at a case", isNone(-1), true);
        due.truth("the class is public and final", isPublicAndFinal(), true);
        due.text("its package", ReachProver.class.getPackageName(), "");
        due.text("what it extends", ReachProver.class.getSuperclass().getName(), "java.lang.Object");
        due.number("how many interfaces it implements", ReachProver.class.getInterfaces().length, 0);
        due.text("classes inside that are seen or not static", String.join("\n", classesSeenOrNotStatic()), "");
        due.text("what can be seen", String.join("\n", seen()), String.join("\n", FACE));
        due.truth("a private method bears a public one's name", namesAreShared(), false);
        due.end();
    }

    /** Only a constant can stand at a case; with anything else this file would not compile. */
    private static boolean isNone(int answer) {
        switch (answer) {
            case ReachProver.NONE:
                return true;
            default:
                return false;
        }
    }

    private static List<String> classesSeenOrNotStatic() {
        List<String> found = new ArrayList<>();
        for (Class<?> inside : ReachProver.class.getDeclaredClasses()) {
            int modifiers = inside.getModifiers();
            if (Modifier.isPublic(modifiers) || Modifier.isProtected(modifiers) || !Modifier.isStatic(modifiers)) {
                found.add(inside.getName());
            }
        }
        return found;
    }

    private static boolean isPublicAndFinal() {
        int modifiers = ReachProver.class.getModifiers();
        return Modifier.isPublic(modifiers) && Modifier.isFinal(modifiers);
    }

    private static List<String> seen() {
        List<String> seen = new ArrayList<>();
        for (Constructor<?> constructor : ReachProver.class.getDeclaredConstructors()) {
            addUnlessPrivate(seen, constructor.getModifiers(), constructor.toString());
        }
        for (Method method : ReachProver.class.getDeclaredMethods()) {
            addUnlessPrivate(seen, method.getModifiers(), method.toString());
        }
        for (Field field : ReachProver.class.getDeclaredFields()) {
            addUnlessPrivate(seen, field.getModifiers(), field.toString());
        }
        Collections.sort(seen, FaceTest::inFaceOrder);
        return seen;
    }

    private static int inFaceOrder(String left, String right) {
        return String.CASE_INSENSITIVE_ORDER.compare(left, right);
    }

    private static void addUnlessPrivate(List<String> seen, int modifiers, String text) {
        if (!Modifier.isPrivate(modifiers)) {
            seen.add(text);
        }
    }

    private static boolean namesAreShared() {
        Method[] methods = ReachProver.class.getDeclaredMethods();
        for (Method one : methods) {
            for (Method other : methods) {
                if (Modifier.isPublic(one.getModifiers()) && Modifier.isPrivate(other.getModifiers())
                        && one.getName().equals(other.getName())) {
                    return true;
                }
            }
        }
        return false;
    }
}

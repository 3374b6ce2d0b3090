import java.lang.reflect.Constructor;
import java.lang.reflect.Field;
import java.lang.reflect.Method;
import java.lang.reflect.Modifier;
import java.util.Set;
import java.util.TreeSet;

/** The class shows the document's face and nothing beside it. */
public final class FaceTest {
    private static int wrong = 0;

    private static void same(String what, Set<String> got, Set<String> want) {
        if (!got.equals(want)) {
            wrong++;
            System.out.println(what + ": " + got + ", due is " + want);
        }
    }

    private static Set<String> methods() {
        Set<String> names = new TreeSet<>();
        for (Method m : TraceLine.class.getDeclaredMethods()) {
            if (!Modifier.isPrivate(m.getModifiers())) {
                names.add(m.toString());
            }
        }
        return names;
    }

    private static Set<String> fields() {
        Set<String> names = new TreeSet<>();
        for (Field f : TraceLine.class.getDeclaredFields()) {
            if (!Modifier.isPrivate(f.getModifiers())) {
                names.add(f.toString());
            }
        }
        return names;
    }

    private static Set<String> constructors() {
        Set<String> names = new TreeSet<>();
        for (Constructor<?> c : TraceLine.class.getDeclaredConstructors()) {
            names.add(c.toString());
        }
        return names;
    }

    private static void noSharedNames() {
        for (Method hidden : TraceLine.class.getDeclaredMethods()) {
            for (Method shown : TraceLine.class.getMethods()) {
                if (Modifier.isPrivate(hidden.getModifiers()) && hidden.getName().equals(shown.getName())) {
                    wrong++;
                    System.out.println("a private method bears the public name " + hidden.getName());
                }
            }
        }
    }

    private static void noChangingStatics() {
        for (Field f : TraceLine.class.getDeclaredFields()) {
            if (Modifier.isStatic(f.getModifiers()) && !Modifier.isFinal(f.getModifiers())) {
                wrong++;
                System.out.println("a static field that is not final: " + f.getName());
            }
        }
    }

    public static void main(String[] args) {
        same("methods", methods(), new TreeSet<>(Set.of(
            "public int TraceLine.begin(int)",
            "public int TraceLine.end()",
            "public boolean TraceLine.weigh(int)",
            "public boolean TraceLine.stale(int)",
            "public int TraceLine.resume()",
            "public int TraceLine.take(int)",
            "public int TraceLine.done()",
            "public boolean TraceLine.toEnd()",
            "public boolean TraceLine.toBegin()",
            "public void TraceLine.wipe()",
            "public int TraceLine.of(int,int) throws java.lang.IllegalArgumentException",
            "public int TraceLine.event(int)",
            "public int TraceLine.look(int)")));
        same("fields", fields(), new TreeSet<>(Set.of("public static final int TraceLine.NONE")));
        same("constructors", constructors(), new TreeSet<>(Set.of("public TraceLine()")));
        noSharedNames();
        noChangingStatics();
        if (!Modifier.isFinal(TraceLine.class.getModifiers()) || !Modifier.isPublic(TraceLine.class.getModifiers())) {
            wrong++;
            System.out.println("the class is not public and final");
        }
        System.out.println(wrong == 0 ? "the face is as due" : wrong + " faults in the face");
        if (wrong != 0) {
            System.exit(1);
        }
    }
}

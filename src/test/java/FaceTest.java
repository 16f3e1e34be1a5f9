import java.lang.reflect.Constructor;
import java.lang.reflect.Field;
import java.lang.reflect.Method;
import java.lang.reflect.Modifier;
import java.util.Set;
import java.util.TreeSet;

/** The class has the document's public face, and no other member of it can be seen from outside. */
public final class FaceTest {
    private static final String[] FACE = {
        "public static final int BAD", "public static final int NONE",
        "public static final int UNKNOWN", "public static final int ORDER",
        "public SigmaDesk()",
        "public int power(int,int)", "public boolean leaf(int,int)",
        "public boolean equal(int,int,int,int)", "public boolean join(boolean)",
        "public boolean discard()", "public int accept()", "public boolean tell(int,int)",
        "public int witness(int)", "public boolean known()", "public int commit(int)",
        "public int respond(int)", "public int simulate(int,int)", "public int prove(int)",
        "public int hash()", "public boolean verify()", "public int challenge()",
        "public int part(int,int)", "public boolean change(int,int,int)", "public boolean save()",
        "public int extract()",
    };

    public static void main(String[] args) {
        Set<String> due = new TreeSet<>(Set.of(FACE));
        Set<String> got = visibleMembers();
        boolean right = due.equals(got);
        if (!right) {
            System.out.println("the face is " + got + ", due is " + due);
        }
        if (!Modifier.toString(SigmaDesk.class.getModifiers()).equals("public final")) {
            System.out.println("the class is not public final");
            right = false;
        }
        if (!nestedClassesAreStatic() || !staticFieldsAreFinal() || !publicNamesAreUsedOnce()) {
            right = false;
        }
        if (!right) {
            System.exit(1);
        }
        System.out.println("the face is as due");
    }

    private static Set<String> visibleMembers() {
        Set<String> seen = new TreeSet<>();
        for (Field f : SigmaDesk.class.getDeclaredFields()) {
            if (!Modifier.isPrivate(f.getModifiers()) && !f.isSynthetic()) {
                seen.add(f.toGenericString().replace("SigmaDesk.", ""));
            }
        }
        for (Constructor<?> c : SigmaDesk.class.getDeclaredConstructors()) {
            if (!Modifier.isPrivate(c.getModifiers()) && !c.isSynthetic()) {
                seen.add(c.toString());
            }
        }
        for (Method m : SigmaDesk.class.getDeclaredMethods()) {
            if (!Modifier.isPrivate(m.getModifiers()) && !m.isSynthetic()) {
                seen.add(m.toString().replace("SigmaDesk.", ""));
            }
        }
        return seen;
    }

    private static boolean nestedClassesAreStatic() {
        for (Class<?> c : SigmaDesk.class.getDeclaredClasses()) {
            int modifiers = c.getModifiers();
            if (!Modifier.isStatic(modifiers) || Modifier.isPublic(modifiers) || Modifier.isProtected(modifiers)) {
                System.out.println("the class " + c.getName() + " is not hidden and static");
                return false;
            }
        }
        return true;
    }

    private static boolean staticFieldsAreFinal() {
        for (Field f : SigmaDesk.class.getDeclaredFields()) {
            if (Modifier.isStatic(f.getModifiers()) && !Modifier.isFinal(f.getModifiers())) {
                System.out.println("the static field " + f.getName() + " is not final");
                return false;
            }
        }
        return true;
    }

    private static boolean publicNamesAreUsedOnce() {
        Set<String> names = new TreeSet<>();
        for (Method m : SigmaDesk.class.getMethods()) {
            names.add(m.getName());
        }
        for (Class<?> c : SigmaDesk.class.getNestHost().getNestMembers()) {
            for (Method m : c.getDeclaredMethods()) {
                if (!Modifier.isPublic(m.getModifiers()) && names.contains(m.getName())) {
                    System.out.println("the hidden method " + m + " bears the name of a public one");
                    return false;
                }
            }
        }
        return true;
    }
}

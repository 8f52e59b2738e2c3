import java.lang.reflect.Constructor;
import java.lang.reflect.Field;
import java.lang.reflect.Member;
import java.lang.reflect.Method;
import java.lang.reflect.Modifier;
import java.util.Set;
import java.util.TreeSet;

/** The class has the document's face, and no member beside it that others could see. */
public final class FaceTest {

    private static final Set<String> FACE = Set.of(
            "public static final int PromiseDesk.VALID",
            "public PromiseDesk()",
            "public int PromiseDesk.make(int,int,int,int)"
                    + " throws java.lang.IllegalArgumentException,java.lang.IllegalStateException",
            "public int PromiseDesk.value(int,int) throws java.lang.IllegalArgumentException",
            "public boolean PromiseDesk.holds(int,int) throws java.lang.IllegalArgumentException",
            "public int PromiseDesk.run(int,int,int)"
                    + " throws java.lang.IllegalArgumentException,java.lang.IllegalStateException",
            "public int PromiseDesk.promise(int,int,int)"
                    + " throws java.lang.IllegalArgumentException,java.lang.IllegalStateException",
            "public boolean PromiseDesk.kept(int,int)"
                    + " throws java.lang.IllegalArgumentException,java.lang.IllegalStateException",
            "public int PromiseDesk.decide(int) throws java.lang.IllegalStateException",
            "public int PromiseDesk.broken(int,int,int)"
                    + " throws java.lang.IllegalArgumentException,java.lang.IllegalStateException",
            "public double PromiseDesk.part() throws java.lang.IllegalStateException",
            "public int PromiseDesk.count(int) throws java.lang.IllegalArgumentException");

    public static void main(String[] args) {
        boolean fine = faceIsTheDocuments() & classesInsideAreHidden() & privateNamesAreOthers();
        if (!fine) {
            System.exit(1);
        }
        System.out.println("the face is the document's");
    }

    private static boolean faceIsTheDocuments() {
        Set<String> found = new TreeSet<>();
        for (Field field : PromiseDesk.class.getDeclaredFields()) {
            addUnlessPrivate(found, field, field.toGenericString());
        }
        for (Constructor<?> constructor : PromiseDesk.class.getDeclaredConstructors()) {
            addUnlessPrivate(found, constructor, constructor.toGenericString());
        }
        for (Method method : PromiseDesk.class.getDeclaredMethods()) {
            addUnlessPrivate(found, method, method.toGenericString());
        }
        boolean closed = Modifier.isFinal(PromiseDesk.class.getModifiers())
                && Modifier.isPublic(PromiseDesk.class.getModifiers());
        if (!closed || !found.equals(FACE)) {
            System.out.println("the face is " + new TreeSet<>(found));
            System.out.println("due is " + new TreeSet<>(FACE));
            return false;
        }
        return true;
    }

    private static boolean classesInsideAreHidden() {
        boolean fine = true;
        for (Class<?> inside : PromiseDesk.class.getDeclaredClasses()) {
            int is = inside.getModifiers();
            if (!Modifier.isStatic(is) || Modifier.isPublic(is) || Modifier.isProtected(is)) {
                System.out.println(inside + " is not static, or can be seen");
                fine = false;
            }
        }
        return fine;
    }

    private static boolean privateNamesAreOthers() {
        Set<String> open = new TreeSet<>();
        Set<String> hidden = new TreeSet<>();
        for (Method method : PromiseDesk.class.getDeclaredMethods()) {
            (Modifier.isPrivate(method.getModifiers()) ? hidden : open).add(method.getName());
        }
        for (Class<?> inside : PromiseDesk.class.getDeclaredClasses()) {
            for (Method method : inside.getDeclaredMethods()) {
                hidden.add(method.getName());
            }
        }
        hidden.retainAll(open);
        if (!hidden.isEmpty()) {
            System.out.println("methods inside bear names of the face: " + hidden);
        }
        return hidden.isEmpty();
    }

    private static void addUnlessPrivate(Set<String> found, Member member, String text) {
        if (!Modifier.isPrivate(member.getModifiers())) {
            found.add(text);
        }
    }
}

import java.lang.reflect.Constructor;
import java.lang.reflect.Field;
import java.lang.reflect.Method;
import java.lang.reflect.Modifier;
import java.util.Arrays;
import java.util.Set;
import java.util.TreeSet;

/** The public face is that of the document, and nothing beside it can be seen (rule 1 of LANGUAGE.md). */
public final class FaceTest {
    private static final Set<String> FIELDS = Set.of("public static final int LineDisk.NONE");
    private static final Set<String> CONSTRUCTORS = Set.of("public LineDisk()");
    private static final Set<String> METHODS = new TreeSet<>(Arrays.asList(
            "public int LineDisk.format()",
            "public int LineDisk.recover()",
            "public int LineDisk.feed(int)",
            "public int LineDisk.step(int)",
            "public boolean LineDisk.arm(int) throws java.lang.IllegalArgumentException",
            "public int LineDisk.out(int) throws java.lang.IndexOutOfBoundsException",
            "public int LineDisk.outs()",
            "public int LineDisk.disk(int) throws java.lang.IndexOutOfBoundsException",
            "public int LineDisk.files()",
            "public int LineDisk.about(int)"));

    public static void main(String[] args) {
        theClass();
        fields();
        constructors();
        methods();
        classesInside();
        Check.end("FaceTest");
    }

    private static void theClass() {
        int modifiers = LineDisk.class.getModifiers();
        Check.holds("the class is public and final", modifiers == (Modifier.PUBLIC | Modifier.FINAL));
        Check.holds("it is of no other class", LineDisk.class.getSuperclass() == Object.class);
        Check.same("interfaces", 0, LineDisk.class.getInterfaces().length);
    }

    private static void fields() {
        Set<String> seen = new TreeSet<>();
        for (Field field : LineDisk.class.getDeclaredFields()) {
            int modifiers = field.getModifiers();
            if (!Modifier.isPrivate(modifiers)) {
                seen.add(field.toString());
            }
            Check.holds(field + " is final when static", !Modifier.isStatic(modifiers) || Modifier.isFinal(modifiers));
        }
        Check.holds("fields that can be seen: " + seen, seen.equals(FIELDS));
        Check.same("NONE", -1, LineDisk.NONE);
    }

    private static void constructors() {
        Set<String> all = new TreeSet<>();
        for (Constructor<?> constructor : LineDisk.class.getDeclaredConstructors()) {
            all.add(constructor.toString());
        }
        Check.holds("constructors: " + all, all.equals(CONSTRUCTORS));
    }

    private static void methods() {
        Set<String> seen = new TreeSet<>();
        Set<String> names = new TreeSet<>();
        for (Method method : LineDisk.class.getDeclaredMethods()) {
            if (!Modifier.isPrivate(method.getModifiers())) {
                seen.add(method.toString());
                names.add(method.getName());
            }
        }
        Check.holds("methods that can be seen: " + seen, seen.equals(METHODS));
        privateNamesAreOwn(LineDisk.class, names);
        for (Class<?> inside : LineDisk.class.getDeclaredClasses()) {
            privateNamesAreOwn(inside, names);
        }
    }

    private static void privateNamesAreOwn(Class<?> owner, Set<String> names) {
        for (Method method : owner.getDeclaredMethods()) {
            boolean isPrivate = Modifier.isPrivate(method.getModifiers());
            Check.holds(method + " has a name of its own", !isPrivate || !names.contains(method.getName()));
        }
    }

    private static void classesInside() {
        for (Class<?> inside : LineDisk.class.getDeclaredClasses()) {
            int modifiers = inside.getModifiers();
            Check.holds(inside + " is static", Modifier.isStatic(modifiers));
            Check.holds(inside + " is not of the face",
                    !Modifier.isPublic(modifiers) && !Modifier.isProtected(modifiers));
        }
    }
}

import java.lang.reflect.Field;
import java.lang.reflect.Method;
import java.lang.reflect.Modifier;
import java.util.Arrays;
import java.util.Set;
import java.util.TreeSet;

/** The public face is that of the document, and nothing beside it can be seen (rule 1 of LANGUAGE.md). */
public final class FaceTest {
    private static final Set<String> METHODS = new TreeSet<>(Arrays.asList(
            "public int LineDisk.format()",
            "public int LineDisk.recover()",
            "public int LineDisk.feed(int)",
            "public int LineDisk.step(int)",
            "public boolean LineDisk.arm(int) throws java.lang.IllegalArgumentException",
            "public int LineDisk.out(int) throws java.lang.IndexOutOfBoundsException",
            "public int LineDisk.outs()",
            "public int LineDisk.disk(int) throws java.lang.IndexOutOfBoundsException",
            "public int LineDisk.files()",
            "public int LineDisk.about(int)"));

    public static void main(String[] args) {
        Set<String> seen = new TreeSet<>();
        Set<String> names = new TreeSet<>();
        for (Method method : LineDisk.class.getDeclaredMethods()) {
            if (!Modifier.isPrivate(method.getModifiers())) {
                seen.add(method.toString());
                names.add(method.getName());
            }
        }
        Check.holds("methods that can be seen: " + seen, seen.equals(METHODS));
        for (Method method : LineDisk.class.getDeclaredMethods()) {
            boolean isPrivate = Modifier.isPrivate(method.getModifiers());
            Check.holds(method + " has a name of its own", !isPrivate || !names.contains(method.getName()));
        }
        fields();
        Check.holds("the class is public and final", LineDisk.class.getModifiers() == (Modifier.PUBLIC | Modifier.FINAL));
        Check.same("constructors", 1, LineDisk.class.getDeclaredConstructors().length);
        Check.same("public constructors", 1, LineDisk.class.getConstructors().length);
        for (Class<?> inside : LineDisk.class.getDeclaredClasses()) {
            Check.holds(inside + " is static", Modifier.isStatic(inside.getModifiers()));
        }
        Check.end("FaceTest");
    }

    private static void fields() {
        for (Field field : LineDisk.class.getDeclaredFields()) {
            int modifiers = field.getModifiers();
            Check.holds(field + " is private", Modifier.isPrivate(modifiers) || field.getName().equals("NONE"));
            Check.holds(field + " is final when static", !Modifier.isStatic(modifiers) || Modifier.isFinal(modifiers));
        }
    }
}

import java.lang.reflect.Constructor;
import java.lang.reflect.Field;
import java.lang.reflect.Method;
import java.lang.reflect.Modifier;
import java.util.ArrayList;
import java.util.Arrays;
import java.util.List;
import java.util.Set;
import java.util.TreeSet;

/** The public face: the members of the document, with its throws clauses, and no others. */
public final class FaceTest {
    private static final String INDEX = "IndexOutOfBoundsException";
    private static final String ARGUMENT = "IllegalArgumentException";
    private static final String STATE = "IllegalStateException";
    private static final String[] METHODS = {
        "int blow(int, int, int) " + INDEX + " " + ARGUMENT + " " + STATE,
        "int put(int, int) " + ARGUMENT + " " + STATE,
        "int drop(int) " + ARGUMENT,
        "int lock(int) " + INDEX + " " + STATE,
        "int refresh(int) " + INDEX + " " + STATE,
        "int heat(int) " + ARGUMENT,
        "int pass(int) " + ARGUMENT + " " + STATE,
        "int set(int, int) " + INDEX + " " + ARGUMENT,
        "int append(int) " + ARGUMENT + " " + STATE,
        "int clearBuffer()",
        "int firstError()",
        "int run() " + ARGUMENT,
        "int undo() " + STATE,
        "int fuse(int, int, int) " + INDEX + " " + ARGUMENT,
        "int row(int, int) " + INDEX + " " + ARGUMENT,
        "int key(int, int) " + ARGUMENT,
        "int history(int, int) " + ARGUMENT,
        "int count(int) " + ARGUMENT,
        "int setting(int) " + INDEX,
        "int ifPut(int, int, int) " + ARGUMENT,
        "int ifHeated(int, int) " + ARGUMENT,
        "int ifRead(int, boolean) " + ARGUMENT,
        "int worst()",
        "double sureShare()",
        "long digest()"};

    public static void main(String[] args) {
        Check.holds("the class is public and final, without a class above it or an interface",
                Modifier.isPublic(FuseRows.class.getModifiers()) && Modifier.isFinal(FuseRows.class.getModifiers())
                && FuseRows.class.getSuperclass() == Object.class && FuseRows.class.getInterfaces().length == 0);
        Constructor<?>[] constructors = FuseRows.class.getDeclaredConstructors();
        Check.holds("one public constructor without parameters", constructors.length == 1
                && Modifier.isPublic(constructors[0].getModifiers()) && constructors[0].getParameterCount() == 0);
        Check.due("NONE", FuseRows.NONE, -1);
        methods();
        fields();
        for (Class<?> inside : FuseRows.class.getDeclaredClasses()) {
            Check.holds(inside + " is neither public nor protected, and static",
                    !isOpen(inside.getModifiers()) && Modifier.isStatic(inside.getModifiers()));
        }
        Check.end();
    }

    private static void methods() {
        Set<String> faces = new TreeSet<>();
        Set<String> publicNames = new TreeSet<>();
        List<Method> hidden = new ArrayList<>();
        for (Method method : FuseRows.class.getDeclaredMethods()) {
            if (Modifier.isPrivate(method.getModifiers())) {
                hidden.add(method);
                continue;
            }
            Check.holds(method + " is public and not static",
                    Modifier.isPublic(method.getModifiers()) && !Modifier.isStatic(method.getModifiers()));
            faces.add(faceOf(method));
            publicNames.add(method.getName());
        }
        Set<String> due = new TreeSet<>(Arrays.asList(METHODS));
        Check.holds("the face is " + faces + ", due is " + due, faces.equals(due));
        for (Class<?> inside : FuseRows.class.getDeclaredClasses()) {
            hidden.addAll(Arrays.asList(inside.getDeclaredMethods()));
        }
        for (Method method : hidden) {
            Check.holds(method + " bears the name of a public one", !publicNames.contains(method.getName()));
        }
    }

    private static void fields() {
        for (Field field : FuseRows.class.getDeclaredFields()) {
            boolean isNone = field.getName().equals("NONE") && field.getModifiers()
                    == (Modifier.PUBLIC | Modifier.STATIC | Modifier.FINAL);
            Check.holds(field + " is private, or NONE", Modifier.isPrivate(field.getModifiers()) || isNone);
            Check.holds(field + " is final if it is static",
                    !Modifier.isStatic(field.getModifiers()) || Modifier.isFinal(field.getModifiers()));
        }
    }

    private static boolean isOpen(int modifiers) {
        return Modifier.isPublic(modifiers) || Modifier.isProtected(modifiers);
    }

    private static String faceOf(Method method) {
        StringBuilder face = new StringBuilder();
        face.append(method.getReturnType().getSimpleName()).append(' ').append(method.getName()).append('(');
        String gap = "";
        for (Class<?> parameter : method.getParameterTypes()) {
            face.append(gap).append(parameter.getSimpleName());
            gap = ", ";
        }
        face.append(')');
        for (Class<?> thrown : method.getExceptionTypes()) {
            face.append(' ').append(thrown.getSimpleName());
        }
        return face.toString();
    }
}

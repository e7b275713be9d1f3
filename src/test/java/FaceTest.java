import java.lang.reflect.Constructor;
import java.lang.reflect.Field;
import java.lang.reflect.Method;
import java.lang.reflect.Modifier;
import java.util.Set;
import java.util.TreeSet;

/** The face is what the document writes, and nothing else can be reached. */
final class FaceTest {
    private static final Set<String> FACE = Set.of(
            "int tape(int,int,int)", "int reader(int)", "boolean settings(int,int)",
            "int ask(int,int,int,int)", "int tick(int)", "int arm(int,int)", "int rig(int,int)",
            "int tapeOf(int,int)", "long cell(int,int)", "long askOf(int,int)", "int order(int,int)",
            "int told(int,int)", "boolean breaks(int)", "boolean mends(int)",
            "int copy(int,int,int,int,int)", "int item(int,int)", "long laid()", "int begins(int)",
            "int clear()", "int count(int)");

    public static void main(String[] args) {
        Due.yes("the class is public and final", Modifier.isPublic(TapeHall.class.getModifiers())
                && Modifier.isFinal(TapeHall.class.getModifiers()));
        Due.same("NONE", TapeHall.NONE, -1);
        methods();
        membersBeside();
        Due.close();
    }

    private static void methods() {
        Set<String> open = new TreeSet<>();
        Set<String> names = new TreeSet<>();
        for (Method method : TapeHall.class.getDeclaredMethods()) {
            if (Modifier.isPrivate(method.getModifiers())) {
                continue;
            }
            open.add(textOf(method));
            names.add(method.getName());
            Due.yes(method + " is a public method of an object",
                    (method.getModifiers() & (Modifier.PUBLIC | Modifier.STATIC)) == Modifier.PUBLIC);
        }
        Due.yes("the face is " + open, open.equals(new TreeSet<>(FACE)));
        privateNames(TapeHall.class, names);
        for (Class<?> inside : TapeHall.class.getDeclaredClasses()) {
            Due.yes(inside + " is static", Modifier.isStatic(inside.getModifiers()));
            privateNames(inside, names);
        }
    }

    private static String textOf(Method method) {
        StringBuilder text = new StringBuilder(method.getReturnType().getName());
        text.append(' ').append(method.getName()).append('(');
        for (int i = 0; i < method.getParameterCount(); i++) {
            text.append(i == 0 ? "" : ",").append(method.getParameterTypes()[i].getName());
        }
        return text.append(')').toString();
    }

    private static void privateNames(Class<?> of, Set<String> names) {
        for (Method method : of.getDeclaredMethods()) {
            boolean hidden = of != TapeHall.class || Modifier.isPrivate(method.getModifiers());
            Due.no(of + " hides a name of the face: " + method, hidden && names.contains(method.getName()));
        }
    }

    private static void membersBeside() {
        for (Field field : TapeHall.class.getDeclaredFields()) {
            Due.yes(field + " is private, but for NONE", field.getName().equals("NONE")
                    ? Modifier.isPublic(field.getModifiers()) && Modifier.isFinal(field.getModifiers())
                    : Modifier.isPrivate(field.getModifiers()));
        }
        Constructor<?>[] constructors = TapeHall.class.getDeclaredConstructors();
        Due.same("constructors", constructors.length, 1);
        Due.yes("it is public and takes nothing", Modifier.isPublic(constructors[0].getModifiers())
                && constructors[0].getParameterCount() == 0);
    }
}

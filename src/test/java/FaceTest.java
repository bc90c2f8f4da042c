import java.lang.reflect.Constructor;
import java.lang.reflect.Field;
import java.lang.reflect.Method;
import java.lang.reflect.Modifier;
import java.util.TreeSet;

/** The public face: what the document shows and nothing else that can be seen from outside. */
public final class FaceTest {
    private static final String[] METHODS = {
        "public int feed(int, int, int, int, int)",
        "public int end(int)",
        "public int place()",
        "public long many(int)",
        "public int type(int, int, int)",
        "public long look(int, int, int)",
        "public int name(int, int, int, int)",
    };

    public static void main(String[] args) {
        Class<?> face = ModuleBytes.class;
        isSo("the class is public and final", face.getModifiers() == (Modifier.PUBLIC | Modifier.FINAL));
        isSo("it extends and implements nothing", face.getSuperclass() == Object.class && face.getInterfaces().length == 0);
        isSo("it has no package", face.getPackageName().isEmpty());
        constructors(face);
        methods(face);
        for (Field field : face.getDeclaredFields()) {
            isSo(field.getName() + " is private", Modifier.isPrivate(field.getModifiers()));
            isSo(field.getName() + " is no static that changes",
                !Modifier.isStatic(field.getModifiers()) || Modifier.isFinal(field.getModifiers()));
        }
        for (Class<?> inside : face.getDeclaredClasses()) {
            isSo(inside.getName() + " is static", Modifier.isStatic(inside.getModifiers()));
            isSo(inside.getName() + " is not public or protected",
                !Modifier.isPublic(inside.getModifiers()) && !Modifier.isProtected(inside.getModifiers()));
        }
        Check.finish();
    }

    private static void constructors(Class<?> face) {
        Constructor<?>[] all = face.getDeclaredConstructors();
        isSo("it has one constructor", all.length == 1);
        isSo("that is public and takes nothing",
            Modifier.isPublic(all[0].getModifiers()) && all[0].getParameterCount() == 0 && all[0].getExceptionTypes().length == 0);
    }

    private static void methods(Class<?> face) {
        TreeSet<String> due = new TreeSet<>();
        for (String method : METHODS) {
            due.add(method.replace(" ", ""));
        }
        TreeSet<String> found = new TreeSet<>();
        for (Method method : face.getDeclaredMethods()) {
            if (!Modifier.isPrivate(method.getModifiers()) && !method.isSynthetic()) {
                found.add(method.toGenericString().replace("ModuleBytes.", "").replace(" ", ""));
            }
        }
        isSo("its methods are " + due + ", found: " + found, found.equals(due));
    }

    private static void isSo(String told, boolean so) {
        if (!so) {
            Check.wrong("not so: " + told);
        }
    }
}

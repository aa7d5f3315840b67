import java.lang.reflect.Constructor;
import java.lang.reflect.Field;
import java.lang.reflect.Method;
import java.lang.reflect.Modifier;
import java.util.Set;
import java.util.TreeSet;

/** The public face, and rules 1 and 5 of LANGUAGE.md as far as the compiled class shows them. */
public final class FaceTest {
    private static final Set<String> FACE = Set.of(
            "boolean put(long,int)", "int read()", "int place()", "boolean drive(int,int)", "int pin(int)",
            "int tick()", "int gates(int)");

    public static void main(String[] args) {
        Class<?> desk = ChipDesk.class;
        Check.due("public final", Modifier.isPublic(desk.getModifiers()) && Modifier.isFinal(desk.getModifiers()), true);
        methods(desk);
        fields(desk);
        Constructor<?>[] constructors = desk.getDeclaredConstructors();
        Check.due("constructors", constructors.length, 1);
        Check.due("constructor is public", Modifier.isPublic(constructors[0].getModifiers()), true);
        Check.due("constructor's parameters", constructors[0].getParameterCount(), 0);
        inside(desk);
        Check.end();
    }

    private static void methods(Class<?> desk) {
        Set<String> open = new TreeSet<>();
        for (Method method : desk.getDeclaredMethods()) {
            if (!Modifier.isPrivate(method.getModifiers())) {
                open.add(described(method));
                Check.due(method + " is public", Modifier.isPublic(method.getModifiers()), true);
            }
        }
        Check.due("the face is " + open, open.equals(FACE), true);
    }

    private static String described(Method method) {
        StringBuilder types = new StringBuilder();
        for (Class<?> type : method.getParameterTypes()) {
            types.append(types.length() == 0 ? "" : ",").append(type.getName());
        }
        return method.getReturnType().getName() + " " + method.getName() + "(" + types + ")";
    }

    private static void fields(Class<?> desk) {
        for (Field field : desk.getDeclaredFields()) {
            Check.due(field + " is private", Modifier.isPrivate(field.getModifiers()), true);
        }
    }

    private static void inside(Class<?> desk) {
        Class<?>[] classes = desk.getDeclaredClasses();
        Check.due("at most twelve classes", classes.length <= 11, true);
        for (Class<?> inner : classes) {
            Check.due(inner + " is static", Modifier.isStatic(inner.getModifiers()), true);
            Check.due(inner + " is not public", Modifier.isPublic(inner.getModifiers()), false);
            for (Field field : inner.getDeclaredFields()) {
                boolean changing = Modifier.isStatic(field.getModifiers()) && !Modifier.isFinal(field.getModifiers());
                Check.due(field + " is changing static state", changing, false);
            }
            for (Method method : inner.getDeclaredMethods()) {
                boolean named = FACE.stream().anyMatch(face -> face.contains(" " + method.getName() + "("));
                Check.due(method + " bears a name of the face", named, false);
            }
        }
    }
}

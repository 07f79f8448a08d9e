import java.lang.reflect.Constructor;
import java.lang.reflect.Field;
import java.lang.reflect.Method;
import java.lang.reflect.Modifier;
import java.util.Arrays;
import java.util.TreeSet;
import java.util.stream.Collectors;

/** The class has the document's face and no other visible member. */
public final class FaceTest {
    private static final String[] FACE = {
        "int feed(long,int) IllegalArgumentException,IllegalStateException",
        "int begin() IllegalArgumentException,IllegalStateException",
        "int next() IllegalArgumentException,IllegalStateException",
        "int pattern() IllegalArgumentException,IllegalStateException",
        "void end() IllegalStateException",
        "int place() ",
        "int token(int) IllegalArgumentException,IllegalStateException",
        "int unit(int) IllegalStateException,IndexOutOfBoundsException",
        "int name() IllegalStateException",
        "int literal() IllegalStateException",
        "int text(boolean,int,int) IndexOutOfBoundsException",
    };

    public static void main(String[] args) {
        Check check = new Check();
        Class<?> face = TokenScanner.class;
        check.due("modifiers", Modifier.toString(face.getModifiers()), "public final");
        TreeSet<String> visible = new TreeSet<>();
        TreeSet<String> hidden = new TreeSet<>();
        for (Method m : face.getDeclaredMethods()) {
            if (Modifier.isPrivate(m.getModifiers())) {
                hidden.add(m.getName());
            } else {
                check.due(m.getName() + " is", Modifier.toString(m.getModifiers()), "public");
                visible.add(m.getReturnType() + " " + m.getName() + "(" + list(m.getParameterTypes()) + ") " + list(m.getExceptionTypes()));
            }
        }
        check.due("methods", visible, new TreeSet<>(Arrays.asList(FACE)));
        for (String method : FACE) {
            String name = method.substring(method.indexOf(' ') + 1, method.indexOf('('));
            check.due("a private " + name, hidden.contains(name), false);
        }
        for (Field f : face.getDeclaredFields()) {
            check.due(f.getName() + " is private", Modifier.isPrivate(f.getModifiers()), true);
        }
        Constructor<?>[] made = face.getDeclaredConstructors();
        check.due("constructors", made.length, 1);
        check.due("its parameters", made[0].getParameterCount(), 0);
        check.due("it is", Modifier.toString(made[0].getModifiers()), "public");
        check.done();
    }

    private static String list(Class<?>[] types) {
        return Arrays.stream(types).map(Class::getSimpleName).collect(Collectors.joining(","));
    }
}

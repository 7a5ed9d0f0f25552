import java.lang.reflect.Constructor;
import java.lang.reflect.Field;
import java.lang.reflect.Method;
import java.lang.reflect.Modifier;
import java.util.Arrays;
import java.util.Set;
import java.util.TreeSet;

/** The public face, and what LANGUAGE.md says of the class's members (rules 1 and 5). */
final class FaceTest {
    private static final Set<String> DUE = new TreeSet<>(Set.of(
            "boolean reset(int, int, int)",
            "boolean link(int, int, boolean)",
            "boolean put(int, int, int, int)",
            "int cycle()",
            "int take(int) IllegalArgumentException IllegalStateException",
            "int taken(int, int)",
            "int count(int)",
            "int node(int, int)",
            "int golden(int)",
            "int flit(int, int, int)",
            "int distance(int, int)"));

    public static void main(String[] args) {
        Check check = new Check("FaceTest");
        check.sentence("Terms", "The constants: `NONE = -1`: None.");
        check.equal("NONE", FlitTorus.NONE, -1);
        check.sentence("The public face", "public final class FlitTorus {");
        check.isTrue("public and final", FlitTorus.class.getModifiers() == (Modifier.PUBLIC | Modifier.FINAL));
        methods(check);
        members(check);
        check.end();
    }

    private static void methods(Check check) {
        Set<String> got = new TreeSet<>();
        Set<String> names = new TreeSet<>();
        for (Method method : FlitTorus.class.getDeclaredMethods()) {
            if (Modifier.isPublic(method.getModifiers())) {
                got.add(text(method));
                names.add(method.getName());
            }
        }
        check.isTrue("the methods " + got, got.equals(DUE));
        for (Class<?> one : classes()) {
            for (Method method : one.getDeclaredMethods()) {
                boolean isFace = one == FlitTorus.class && Modifier.isPublic(method.getModifiers());
                check.isTrue(one.getName() + "." + method.getName() + " bears a name of its own",
                        isFace || !names.contains(method.getName()));
                check.isTrue(method + " takes at most seven", method.getParameterCount() <= 7);
            }
        }
    }

    private static String text(Method method) {
        StringBuilder out = new StringBuilder(method.getReturnType().getName() + " " + method.getName() + "(");
        Class<?>[] parameters = method.getParameterTypes();
        for (int i = 0; i < parameters.length; i++) {
            out.append(i == 0 ? "" : ", ").append(parameters[i].getName());
        }
        out.append(")");
        Arrays.stream(method.getExceptionTypes()).map(Class::getSimpleName).sorted()
                .forEach(name -> out.append(" ").append(name));
        return out.toString();
    }

    private static Class<?>[] classes() {
        Class<?>[] inside = FlitTorus.class.getDeclaredClasses();
        Class<?>[] all = Arrays.copyOf(inside, inside.length + 1);
        all[inside.length] = FlitTorus.class;
        return all;
    }

    private static void members(Check check) {
        Constructor<?>[] constructors = FlitTorus.class.getDeclaredConstructors();
        check.equal("constructors", constructors.length, 1);
        check.isTrue("public FlitTorus()", Modifier.isPublic(constructors[0].getModifiers())
                && constructors[0].getParameterCount() == 0);
        for (Field field : FlitTorus.class.getDeclaredFields()) {
            check.isTrue(field + " is private or NONE",
                    Modifier.isPrivate(field.getModifiers()) || field.getName().equals("NONE"));
        }
        for (Method method : FlitTorus.class.getDeclaredMethods()) {
            int shown = method.getModifiers() & (Modifier.PUBLIC | Modifier.PRIVATE);
            check.isTrue(method + " is public or private", shown != 0);
        }
        check.isTrue("at most twelve classes", classes().length <= 12);
        for (Class<?> one : classes()) {
            check.isTrue(one + " is static", one == FlitTorus.class || Modifier.isStatic(one.getModifiers()));
            int fields = 0;
            for (Field field : one.getDeclaredFields()) {
                boolean isStatic = Modifier.isStatic(field.getModifiers());
                check.isTrue(field + " is no static state", !isStatic || Modifier.isFinal(field.getModifiers()));
                fields += isStatic ? 0 : 1;
            }
            check.isTrue(one + " has " + fields + " fields", fields <= 20);
        }
    }
}

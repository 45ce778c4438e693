import java.io.IOException;
import java.lang.reflect.Constructor;
import java.lang.reflect.Field;
import java.lang.reflect.Method;
import java.lang.reflect.Modifier;
import java.nio.file.Files;
import java.nio.file.Path;
import java.util.Arrays;
import java.util.Set;
import java.util.TreeSet;

/** The document's face, and those rules of LANGUAGE.md that can be seen without reading. */
public final class LanguageTest {
    private static final Set<String> FACE = new TreeSet<>(Arrays.asList(
        "int row(int, boolean, int)", "int share(int, int)", "int clear(int)", "int put(int, boolean, int, long)",
        "int get(int, boolean, int)", "int rest(int, boolean, int, int)", "int turn(int, boolean, int, int)",
        "int tide(int, boolean, int, int)", "int sum(int, boolean, int, int)", "long round(long, int)",
        "int gauge(int, int, long)", "int read(int, long, boolean)", "int rack(int, int)", "int hang(int, int, int)",
        "int take(int, int, int, int)", "long told()", "int count(int)"));
    /** What rules 2, 3, 4, 6 and 13 leave out, and the names of what the machine throws. */
    private static final String[] NOT_USED = {"package ", "Double.", "Float.", "Object", "finally", "assert",
        "synchronized", "::", "strictfp", "native", "Exact(", "getMessage", "ArrayIndexOutOfBounds", "NullPointer",
        "ClassCast", "NegativeArraySize", "ArrayStore", "Throwable", "Error", "(Exception", "System.currentTime",
        "System.nanoTime", "System.out", "Thread", "Random"};
    private static final String SOURCE = "src/main/java/TideGauges.java";

    public static void main(String[] args) throws IOException {
        rule1Face();
        rule1NamesOfPrivateMethods();
        rule2ClassesInside();
        rule5StaticFields();
        rule11Sizes();
        sourceUsesNothingElse();
        Due.end();
    }

    private static void holds(String what, boolean held) {
        Due.due(what, held ? 1 : 0, 1);
    }

    private static String face(Method method) {
        StringBuilder types = new StringBuilder();
        for (Class<?> type : method.getParameterTypes()) {
            types.append(types.length() == 0 ? "" : ", ").append(type.getName());
        }
        return method.getReturnType().getName() + " " + method.getName() + "(" + types + ")";
    }

    private static void rule1Face() {
        Class<?> c = TideGauges.class;
        holds("the class is public and final", Modifier.isPublic(c.getModifiers()) && Modifier.isFinal(c.getModifiers()));
        holds("it has no package", c.getPackageName().isEmpty());
        holds("it extends nothing", c.getSuperclass() == Object.class && c.getInterfaces().length == 0);
        Set<String> seen = new TreeSet<>();
        for (Method method : c.getDeclaredMethods()) {
            if (!Modifier.isPrivate(method.getModifiers())) {
                seen.add(face(method));
                int asDue = Modifier.PUBLIC;
                holds(method + " is public and of an object", method.getModifiers() == asDue);
            }
        }
        holds("the face is the document's: " + seen, seen.equals(FACE));
        Constructor<?>[] constructors = c.getDeclaredConstructors();
        holds("one constructor", constructors.length == 1 && constructors[0].getParameterCount() == 0
            && Modifier.isPublic(constructors[0].getModifiers()));
        for (Field field : c.getDeclaredFields()) {
            holds(field + " is private, or BAD", Modifier.isPrivate(field.getModifiers()) || field.getName().equals("BAD"));
        }
        Due.due("BAD", TideGauges.BAD, -1);
    }

    private static void rule1NamesOfPrivateMethods() {
        Set<String> names = new TreeSet<>();
        for (String call : FACE) {
            names.add(call.substring(call.indexOf(' ') + 1, call.indexOf('(')));
        }
        for (Class<?> c : allClasses()) {
            for (Method method : c.getDeclaredMethods()) {
                boolean apart = !Modifier.isPrivate(method.getModifiers());
                holds(method + " has a name of its own", apart || !names.contains(method.getName()));
            }
        }
    }

    private static Class<?>[] allClasses() {
        Class<?>[] inside = TideGauges.class.getDeclaredClasses();
        Class<?>[] all = Arrays.copyOf(inside, inside.length + 1);
        all[inside.length] = TideGauges.class;
        return all;
    }

    private static void rule2ClassesInside() {
        for (Class<?> c : TideGauges.class.getDeclaredClasses()) {
            boolean seen = Modifier.isPublic(c.getModifiers()) || Modifier.isProtected(c.getModifiers());
            holds(c + " is private or package-visible, and static", !seen && Modifier.isStatic(c.getModifiers()));
        }
    }

    private static void rule5StaticFields() {
        for (Class<?> c : allClasses()) {
            for (Field field : c.getDeclaredFields()) {
                if (Modifier.isStatic(field.getModifiers()) && !field.isSynthetic()) {
                    holds(field + " is final", Modifier.isFinal(field.getModifiers()));
                    holds(field + " is a constant", isConstant(field));
                }
            }
        }
    }

    private static boolean isConstant(Field field) {
        Class<?> type = field.getType();
        return field.isEnumConstant() || type.isPrimitive() || type == String.class || type.isArray();
    }

    private static void rule11Sizes() {
        holds("at most twelve classes", allClasses().length <= 12);
        for (Class<?> c : allClasses()) {
            int fields = 0;
            for (Field field : c.getDeclaredFields()) {
                fields += Modifier.isStatic(field.getModifiers()) ? 0 : 1;
            }
            holds(c + " has at most twenty fields", fields <= 20);
            for (Method method : c.getDeclaredMethods()) {
                holds(method + " has at most seven parameters", method.getParameterCount() <= 7);
            }
        }
    }

    private static void sourceUsesNothingElse() throws IOException {
        String code = Files.readString(Path.of(SOURCE)).replaceAll("(?s)/\\*.*?\\*/", "").replaceAll("//.*", "");
        for (String word : NOT_USED) {
            holds("the source has no '" + word + "'", !code.contains(word));
        }
    }
}

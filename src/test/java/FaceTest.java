import java.io.IOException;
import java.lang.reflect.Constructor;
import java.lang.reflect.Field;
import java.lang.reflect.Method;
import java.lang.reflect.Modifier;
import java.nio.file.Files;
import java.nio.file.Path;
import java.util.Set;
import java.util.TreeSet;

/** The public face of the document, and those rules of LANGUAGE.md that a test can look at. */
public final class FaceTest {
    private static final String[] FACE = {
        "int version()", "int answer(int, int, int, int)", "int differ(int, int, int)",
        "int goes(int, int)", "int call(int, int, int)", "int wrap(int, int, int, int)",
        "int split(int, int, int, int, int)", "int clear(int)", "int sees(int, int, int)",
        "int uses(int, int)", "int shape(int, int)", "int count(int, int, int, int, int)",
        "int sum(int, int, int, int)", "int silent(int)", "int most(int, int, int)",
        "int harm(int, int, int)", "int rule(int, int, int, int)", "int holds(int, int, int)",
        "int clash(int, int)", "int left(int, int, int)", "int days(int)",
        "int promise(int, int, int)", "int shut(int, int)", "int open(int)", "int about(int, int)",
        "int harmed(int, int)", "int ready(int)", "int set(int, int, int)", "int plan(int)",
        "int told(int)", "long trace()"
    };
    private static final String[] FORBIDDEN = {
        "throw", "throws", "try", "catch", "synchronized", "assert", "package", "equals", "hashCode",
        "yield", "import static", "float", "double", "Object", "Random", "System.currentTimeMillis"
    };
    private static final Due due = new Due("FaceTest");

    public static void main(String[] args) throws IOException {
        constants();
        members();
        nested();
        Path root = Path.of(args.length == 0 ? "." : args[0]);
        source(Files.readString(root.resolve("src/main/java/WhoCalls.java")));
        due.end();
    }

    private static void constants() {
        due.is("BAD", WhoCalls.BAD, -1);
        due.is("STATE", WhoCalls.STATE, -2);
        due.is("FULL", WhoCalls.FULL, -3);
        due.is("NONE", WhoCalls.NONE, -9);
    }

    private static void members() {
        int type = WhoCalls.class.getModifiers();
        due.holds("the class is public and final", Modifier.isPublic(type) && Modifier.isFinal(type));
        Set<String> want = new TreeSet<>(Set.of(FACE));
        Set<String> got = new TreeSet<>();
        Set<String> names = new TreeSet<>();
        for (Method method : WhoCalls.class.getDeclaredMethods()) {
            if (!Modifier.isPrivate(method.getModifiers())) {
                got.add(told(method));
                names.add(method.getName());
                due.holds(method + " is public, of an object", method.getModifiers() == Modifier.PUBLIC);
            }
        }
        due.holds("the methods " + got + " are the face's", got.equals(want));
        privateNames(WhoCalls.class, names);
        Set<String> open = new TreeSet<>();
        for (Field field : WhoCalls.class.getDeclaredFields()) {
            if (!Modifier.isPrivate(field.getModifiers())) {
                open.add(field.getName());
            }
            staticIsFinal(field);
        }
        due.holds("the constants " + open, open.equals(Set.of("BAD", "STATE", "FULL", "NONE")));
        Constructor<?>[] made = WhoCalls.class.getDeclaredConstructors();
        due.holds("one public constructor", made.length == 1 && Modifier.isPublic(made[0].getModifiers()));
    }

    private static String told(Method method) {
        StringBuilder text = new StringBuilder(method.getReturnType() + " " + method.getName() + "(");
        for (int i = 0; i < method.getParameterCount(); i++) {
            text.append(i == 0 ? "" : ", ").append(method.getParameterTypes()[i]);
        }
        return text.append(")").toString();
    }

    private static void privateNames(Class<?> type, Set<String> names) {
        for (Method method : type.getDeclaredMethods()) {
            boolean hidden = Modifier.isPrivate(method.getModifiers());
            due.holds(method + " bears no public name", !hidden || !names.contains(method.getName()));
            due.holds(method + " takes at most seven", method.getParameterCount() <= 7);
        }
    }

    private static void staticIsFinal(Field field) {
        int kind = field.getModifiers();
        due.holds(field + " is no static state", !Modifier.isStatic(kind) || Modifier.isFinal(kind));
    }

    private static void nested() {
        Set<String> names = new TreeSet<>();
        for (Method method : WhoCalls.class.getMethods()) {
            if (method.getDeclaringClass() == WhoCalls.class) {
                names.add(method.getName());
            }
        }
        Class<?>[] inside = WhoCalls.class.getDeclaredClasses();
        due.holds("at most some twelve classes", inside.length <= 11);
        for (Class<?> type : inside) {
            int kind = type.getModifiers();
            due.holds(type + " is static", Modifier.isStatic(kind));
            due.holds(type + " is hidden", !Modifier.isPublic(kind) && !Modifier.isProtected(kind));
            privateNames(type, names);
            for (Field field : type.getDeclaredFields()) {
                staticIsFinal(field);
            }
        }
    }

    /** Looks at the program's text, comments and all: its comments keep to other words. */
    private static void source(String text) {
        for (String word : FORBIDDEN) {
            due.holds("the text has no '" + word + "'", !text.matches("(?s).*\\b" + word + "\\b.*"));
        }
        due.holds("no lambda, no method reference", !text.contains("->") && !text.contains("::"));
        due.holds("no static initialiser", !text.matches("(?s).*static\\s*\\{.*"));
        for (int i = 0; i < text.length(); i++) {
            if (text.charAt(i) > 126) {
                due.holds("the sign at " + i + " is plain", false);
            }
        }
        for (String line : text.split("\n")) {
            boolean imports = line.startsWith("import ");
            due.holds(line, !imports || line.equals("import java.util.Arrays;"));
        }
    }
}

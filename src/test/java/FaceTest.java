import java.io.IOException;
import java.lang.reflect.Field;
import java.lang.reflect.Method;
import java.lang.reflect.Modifier;
import java.nio.file.Files;
import java.nio.file.Path;
import java.util.Arrays;
import java.util.Set;
import java.util.TreeSet;
import java.util.regex.Matcher;
import java.util.regex.Pattern;

/**
 * The class has the document's public face and nothing else, and keeps to those rules of LANGUAGE.md
 * that can be looked at from outside or by its words.
 */
public final class FaceTest {
    private static final Path SOURCE = Path.of("src/main/java/SignalNetwork.java");
    private static final String[] FACE = {
        "int link(int, int)",
        "boolean route(int, int, int, int)",
        "boolean activate(int, boolean)",
        "boolean cut(int, boolean)",
        "boolean damage(int, int, int)",
        "int tick(int)",
        "boolean dial(int, int)",
        "boolean answer(int)",
        "boolean hang(int)",
        "boolean block(int, int, int, boolean)",
        "int end(int, int, int)",
        "int octet(int, int, int)",
        "int bits(int, int)",
        "int flow(int, int, int, int)",
        "int next(int, int, int)",
        "int circuit(int, int, int, int)",
        "int subscriber(int, int)",
        "int counted(int)",
    };
    /** By rules 2, 4, 6 and 13; a file without an import uses nothing of the library but java.lang. */
    private static final String[] RULED_OUT = {
        "\\b(throw|throws|try|catch|finally|synchronized|assert|import|package|protected)\\b",
        "\\b(Thread|Runtime|Random|Object|equals|hashCode|toString)\\b",
        "->|::",
        "\\bSystem\\.(?!arraycopy)",
        "Exact\\(",
    };
    private static final int MOST_CLASSES = 12;
    private static final int MOST_FIELDS = 20;
    private static final int MOST_PARAMETERS = 7;

    private static int wrong = 0;

    public static void main(String[] args) throws IOException {
        constants();
        constructors();
        methods();
        classesInside();
        words();
        System.out.println(wrong == 0 ? "face: as the document and the rules have it" : "face: " + wrong + " faults");
        if (wrong != 0) {
            System.exit(1);
        }
    }

    private static void due(boolean holds, String fault) {
        if (!holds) {
            wrong++;
            System.out.println(fault);
        }
    }

    private static void constants() {
        due(SignalNetwork.NONE == -1, "NONE is " + SignalNetwork.NONE + ", due is -1");
        for (Field field : SignalNetwork.class.getDeclaredFields()) {
            boolean isNone = field.getName().equals("NONE");
            int due = Modifier.PUBLIC | Modifier.STATIC | Modifier.FINAL;
            due(isNone ? field.getModifiers() == due : Modifier.isPrivate(field.getModifiers()),
                "the field " + field.getName() + " is not as in the document's face");
        }
    }

    private static void constructors() {
        due(SignalNetwork.class.getModifiers() == (Modifier.PUBLIC | Modifier.FINAL), "the class is not public and final");
        due(SignalNetwork.class.getDeclaredConstructors().length == 1, "there is another constructor");
        due(SignalNetwork.class.getConstructors().length == 1, "the constructor is not public");
        due(SignalNetwork.class.getConstructors()[0].getParameterCount() == 0, "the constructor takes something");
    }

    private static void methods() {
        Set<String> found = new TreeSet<>();
        Set<String> names = new TreeSet<>();
        for (Method method : SignalNetwork.class.getDeclaredMethods()) {
            if (!Modifier.isPrivate(method.getModifiers())) {
                due(method.getModifiers() == Modifier.PUBLIC, method.getName() + " is not plainly public");
                found.add(faceOf(method));
                names.add(method.getName());
            }
        }
        due(found.equals(new TreeSet<>(Arrays.asList(FACE))), "the methods are " + found);
        for (Method method : SignalNetwork.class.getDeclaredMethods()) {
            boolean isHidden = Modifier.isPrivate(method.getModifiers());
            due(!isHidden || !names.contains(method.getName()), "a private method is called " + method.getName());
        }
    }

    private static String faceOf(Method method) {
        StringBuilder parameters = new StringBuilder();
        for (Class<?> type : method.getParameterTypes()) {
            parameters.append(parameters.length() == 0 ? "" : ", ").append(type.getName());
        }
        return method.getReturnType().getName() + " " + method.getName() + "(" + parameters + ")";
    }

    private static void classesInside() {
        Class<?>[] inside = SignalNetwork.class.getDeclaredClasses();
        due(inside.length + 1 <= MOST_CLASSES, "there are " + (inside.length + 1) + " classes");
        for (Class<?> one : inside) {
            int modifiers = one.getModifiers();
            due(Modifier.isStatic(modifiers), one.getName() + " is not static");
            due(!Modifier.isPublic(modifiers) && !Modifier.isProtected(modifiers), one.getName() + " can be seen");
            keepsSmall(one);
        }
        keepsSmall(SignalNetwork.class);
    }

    private static void keepsSmall(Class<?> one) {
        int fields = 0;
        for (Field field : one.getDeclaredFields()) {
            boolean isStatic = Modifier.isStatic(field.getModifiers());
            fields += isStatic ? 0 : 1;
            due(!isStatic || Modifier.isFinal(field.getModifiers()), field.getName() + " is static, but not final");
        }
        due(fields <= MOST_FIELDS, one.getName() + " has " + fields + " fields");
        for (Method method : one.getDeclaredMethods()) {
            due(method.getParameterCount() <= MOST_PARAMETERS, method.getName() + " takes too much");
        }
    }

    private static void words() throws IOException {
        String code = Files.readString(SOURCE).replaceAll("(?s)/\\*.*?\\*/", "").replaceAll("//.*", "");
        for (String ruledOut : RULED_OUT) {
            Matcher matcher = Pattern.compile(ruledOut).matcher(code);
            due(!matcher.find(), "the source has what is ruled out by " + ruledOut);
        }
    }
}

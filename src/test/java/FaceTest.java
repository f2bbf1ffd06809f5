import java.io.IOException;
import java.lang.reflect.Field;
import java.lang.reflect.Method;
import java.lang.reflect.Modifier;
import java.nio.file.Files;
import java.nio.file.Path;
import java.util.Set;
import java.util.TreeSet;
import java.util.regex.Matcher;
import java.util.regex.Pattern;

/** The public face, and the rules of the language that can be seen from outside or word by word. */
public final class FaceTest {
    private static final Set<String> FACE = Set.of(
            "int crossing(int,int,int,int,int)", "int check(int)", "long many(int)", "int arc(int)",
            "int least(int)", "int entry(int,int,int)", "long minor(int,int,int)", "long alexander(int)",
            "int rank(int,int)", "boolean change(int)", "boolean smooth(int)");
    private static final String[] NEVER = {
        "catch", "throw", "assert", "synchronized", "->", "::", "Exact", "static {", "instanceof", "System.out",
        "Random", "nanoTime", "currentTimeMillis", "[][][]", "finally", "volatile", "native", "package "};

    private static final Set<String> LIBRARY = Set.of(
            "Arrays.fill", "Math.min", "Math.max", "Math.floorMod", "System.arraycopy");

    public static void main(String[] args) throws IOException {
        Checks checks = new Checks("FaceTest");
        face(checks);
        nestedClasses(checks);
        String source = Files.readString(Path.of(args[0]));
        words(checks, source);
        libraryCalls(checks, source);
        lengths(checks, source);
        checks.end();
    }

    private static void face(Checks checks) {
        Class<?> type = AlexanderMatrix.class;
        checks.due("public and final", type.getModifiers(), Modifier.PUBLIC | Modifier.FINAL);
        checks.due("constructors", type.getDeclaredConstructors().length, 1);
        checks.due("public constructors", type.getConstructors().length, 1);
        checks.due("its parameters", type.getDeclaredConstructors()[0].getParameterCount(), 0);
        Set<String> found = new TreeSet<>();
        Set<String> names = new TreeSet<>();
        for (Method method : type.getDeclaredMethods()) {
            if (Modifier.isPublic(method.getModifiers())) {
                found.add(text(method));
                names.add(method.getName());
            }
        }
        checks.due("public methods " + found, found.equals(FACE), true);
        for (Method method : type.getDeclaredMethods()) {
            boolean good = Modifier.isPublic(method.getModifiers())
                    || Modifier.isPrivate(method.getModifiers()) && !names.contains(method.getName());
            checks.due("method " + method.getName(), good, true);
        }
        for (Field field : type.getDeclaredFields()) {
            checks.due("field " + field.getName() + " is private", Modifier.isPrivate(field.getModifiers()), true);
        }
    }

    private static String text(Method method) {
        StringBuilder text = new StringBuilder();
        for (Class<?> parameter : method.getParameterTypes()) {
            text.append(text.length() == 0 ? "" : ",").append(parameter.getName());
        }
        return method.getReturnType().getName() + " " + method.getName() + "(" + text + ")";
    }

    private static void nestedClasses(Checks checks) {
        checks.due("at most 12 classes", AlexanderMatrix.class.getDeclaredClasses().length <= 11, true);
        for (Class<?> nested : AlexanderMatrix.class.getDeclaredClasses()) {
            checks.due(nested.getName() + " is static", Modifier.isStatic(nested.getModifiers()), true);
            checks.due(nested.getName() + " is not public", Modifier.isPublic(nested.getModifiers()), false);
            for (Method method : nested.getDeclaredMethods()) {
                checks.due(nested.getName() + "." + method.getName() + " parameters",
                        method.getParameterCount() <= 7, true);
                boolean ofTheFace = FACE.stream().anyMatch(m -> m.contains(" " + method.getName() + "("));
                checks.due(nested.getName() + "." + method.getName() + " has a name of its own", ofTheFace, false);
            }
            fields(checks, nested);
        }
        fields(checks, AlexanderMatrix.class);
    }

    /** Constants of the class are numbers; what an object holds is numbers, arrays of them, and own objects. */
    private static void fields(Checks checks, Class<?> type) {
        int ofAnObject = 0;
        for (Field field : type.getDeclaredFields()) {
            String name = type.getName() + "." + field.getName();
            Class<?> held = field.getType();
            if (Modifier.isStatic(field.getModifiers())) {
                checks.due(name + " is final", Modifier.isFinal(field.getModifiers()), true);
                checks.due(name + " is a number", held == int.class || held == long.class, true);
            } else {
                ofAnObject++;
                while (held.isArray()) {
                    held = held.getComponentType();
                }
                boolean own = held.getDeclaringClass() == AlexanderMatrix.class;
                checks.due(name + " is a number or an own object", held.isPrimitive() || own, true);
            }
        }
        checks.due(type.getName() + " has at most 20 fields", ofAnObject <= 20, true);
    }

    private static void words(Checks checks, String source) {
        for (String word : NEVER) {
            checks.due("the source has no " + word, source.contains(word), false);
        }
        for (String line : source.split("\n")) {
            if (line.startsWith("import ")) {
                checks.due(line, line.equals("import java.util.Arrays;"), true);
            }
        }
    }

    /** What is called on a name with a capital letter is the library's. */
    private static void libraryCalls(Checks checks, String source) {
        Matcher calls = Pattern.compile("\\b([A-Z][A-Za-z]*)\\.([a-z]\\w*)\\(").matcher(source);
        while (calls.find()) {
            String call = calls.group(1) + "." + calls.group(2);
            checks.due(call + " is of the library that may be used", LIBRARY.contains(call), true);
        }
    }

    /** Methods of a nested class begin at eight blanks, those of the class at four. */
    private static void lengths(Checks checks, String source) {
        String[] lines = source.split("\n");
        for (String indent : new String[] {"    ", "        "}) {
            int begun = -1;
            for (int i = 0; i < lines.length; i++) {
                if (lines[i].matches(indent + "\\w.*\\) \\{")) {
                    begun = i;
                } else if (lines[i].equals(indent + "}") && begun >= 0) {
                    checks.due("lines of " + lines[begun].strip(), i - begun <= 60, true);
                    begun = -1;
                }
            }
        }
    }
}

import java.io.IOException;
import java.lang.reflect.Array;
import java.lang.reflect.Constructor;
import java.lang.reflect.Field;
import java.lang.reflect.Method;
import java.lang.reflect.Modifier;
import java.nio.file.Files;
import java.nio.file.Path;
import java.util.Map;
import java.util.Set;
import java.util.TreeMap;
import java.util.TreeSet;
import java.util.regex.Matcher;
import java.util.regex.Pattern;

/** The face of the class is the document's, and its text keeps to what can be seen of LANGUAGE.md. */
public final class LanguageTest {
    private static final Path SOURCE = Path.of("src/main/java/FlowShape.java");
    private static final Set<String> FACE = Set.of(
        "boolean size(int)", "boolean edge(int,int,boolean)", "boolean has(int,int)", "boolean reached(int)",
        "int reachedOnes()", "int dominator(int)", "boolean dominates(int,int)", "boolean head(int)", "int depth(int)");
    // A method's first line, and all until a brace that stands as far in as that line.
    private static final Pattern METHOD = Pattern.compile(
        "(?ms)^( +)(?:(?:public|private|static) )*\\w+ (\\w+)\\([^)]*\\) \\{\\n(.*?)^\\1\\}");
    private static final String[] BARRED = {
        "\\b(throw|throws|try|catch|synchronized|assert|package|Object|System\\.(?!arraycopy)\\w+)\\b",
        "->", "::", "\\bstatic\\s*\\{", "\\w+Exact\\b", "\\bimport\\s+(?!java\\.util\\.(Arrays|ArrayList|List|Iterator);)",
        "\\bArrays\\.(?!(copyOf|copyOfRange|fill)\\b)\\w+", "\\bLong\\.(?!bitCount\\b)\\w+", "[^\\x00-\\x7f]"
    };

    // Rules 11 and 12 of LANGUAGE.md; the room of an object is this project's own bound.
    private static final int MOST_CLASSES = 12;
    private static final int MOST_FIELDS = 20;
    private static final int MOST_PARAMETERS = 7;
    private static final int MOST_LINES = 60;
    private static final int MOST_DEEP = 8;
    private static final int MOST_ROOM = 4000;

    private static int wrong = 0;

    public static void main(String[] args) throws IOException, ReflectiveOperationException {
        String code = Files.readString(SOURCE).replaceAll("(?s)/\\*.*?\\*/", " ").replaceAll("//[^\n]*", " ");
        face();
        classesInside();
        barredText(code);
        callsMakeNothing(code);
        callsGoNotTooDeep(methodBodies(code));
        roomOfAnObject();
        System.out.println(wrong == 0 ? "the class keeps to its face and language" : wrong + " faults");
        if (wrong != 0) {
            System.exit(1);
        }
    }

    private static void fault(String what) {
        wrong++;
        System.out.println(what);
    }

    private static void face() {
        int modifiers = FlowShape.class.getModifiers();
        if (!Modifier.isPublic(modifiers) || !Modifier.isFinal(modifiers)) {
            fault("the class is not public and final");
        }
        Constructor<?>[] makers = FlowShape.class.getDeclaredConstructors();
        if (makers.length != 1 || makers[0].getParameterCount() != 0 || !Modifier.isPublic(makers[0].getModifiers())) {
            fault("the constructor is not FlowShape() alone");
        }
        methods();
        for (Field f : FlowShape.class.getDeclaredFields()) {
            boolean open = !Modifier.isPrivate(f.getModifiers());
            boolean changes = Modifier.isStatic(f.getModifiers()) && !Modifier.isFinal(f.getModifiers());
            if (open || changes) {
                fault("field " + f.getName() + " is open to others or static and not final");
            }
        }
    }

    private static void methods() {
        Set<String> open = new TreeSet<>();
        Set<String> openNames = new TreeSet<>();
        for (Method m : FlowShape.class.getDeclaredMethods()) {
            if (!Modifier.isPrivate(m.getModifiers())) {
                open.add(written(m));
                openNames.add(m.getName());
            }
        }
        if (!open.equals(new TreeSet<>(FACE))) {
            fault("the face is " + open);
        }
        for (Method m : FlowShape.class.getDeclaredMethods()) {
            if (Modifier.isPrivate(m.getModifiers()) && openNames.contains(m.getName())) {
                fault("private method " + m.getName() + " bears the name of a public one");
            }
        }
    }

    private static String written(Method m) {
        StringBuilder text = new StringBuilder(m.getReturnType().getName()).append(' ').append(m.getName()).append('(');
        for (Class<?> type : m.getParameterTypes()) {
            text.append(text.charAt(text.length() - 1) == '(' ? "" : ",").append(type.getName());
        }
        return text.append(')').toString();
    }

    private static void classesInside() {
        Class<?>[] inside = FlowShape.class.getDeclaredClasses();
        if (inside.length > MOST_CLASSES) {
            fault(inside.length + " classes inside");
        }
        sizeOfClass(FlowShape.class);
        for (Class<?> c : inside) {
            int modifiers = c.getModifiers();
            if (!Modifier.isStatic(modifiers) || Modifier.isPublic(modifiers) || Modifier.isProtected(modifiers)) {
                fault("class " + c.getName() + " is not static, or open to others");
            }
            sizeOfClass(c);
        }
    }

    private static void sizeOfClass(Class<?> c) {
        int fields = 0;
        for (Field f : c.getDeclaredFields()) {
            boolean isStatic = Modifier.isStatic(f.getModifiers());
            fields += isStatic ? 0 : 1;
            if (isStatic && (!Modifier.isFinal(f.getModifiers()) || f.getType() != int.class)) {
                fault("static field " + f.getName() + " is no constant number");
            }
        }
        if (fields > MOST_FIELDS) {
            fault(c.getName() + " has " + fields + " fields");
        }
        for (Method m : c.getDeclaredMethods()) {
            if (m.getParameterCount() > MOST_PARAMETERS) {
                fault(m.getName() + " has " + m.getParameterCount() + " parameters");
            }
        }
    }

    private static void barredText(String code) {
        for (String barred : BARRED) {
            Matcher found = Pattern.compile(barred).matcher(code);
            if (found.find()) {
                fault("the text has '" + found.group() + "', which LANGUAGE.md bars");
            }
        }
    }

    /** All calls of a run live in one room, so what is made is made in the rows of fields alone. */
    private static void callsMakeNothing(String code) {
        for (String line : code.split("\n")) {
            if (line.matches(".*\\b(new|clone|copyOf|copyOfRange)\\b.*") && !line.matches("\\s+private final .*= new .*;")) {
                fault("a call makes something: " + line.trim());
            }
        }
    }

    /** The lines of each method by its name; no two methods of the file bear the same one. */
    private static Map<String, String> methodBodies(String code) {
        Map<String, String> bodies = new TreeMap<>();
        Matcher method = METHOD.matcher(code);
        while (method.find()) {
            String name = method.group(2);
            int lines = method.group(3).split("\n").length;
            if (bodies.put(name, method.group(3)) != null) {
                fault("two methods bear the name " + name);
            }
            if (lines > MOST_LINES) {
                fault(name + " has " + lines + " lines");
            }
        }
        return bodies;
    }

    private static void callsGoNotTooDeep(Map<String, String> bodies) {
        // The constructor is found as one of them.
        int methods = 1 + FlowShape.class.getDeclaredMethods().length;
        for (Class<?> c : FlowShape.class.getDeclaredClasses()) {
            methods += c.getDeclaredMethods().length;
        }
        if (bodies.size() != methods) {
            fault("the test itself finds other methods than there are: " + bodies.keySet());
        }
        for (String name : bodies.keySet()) {
            int deep = deepestFrom(name, bodies, 1);
            if (deep > MOST_DEEP) {
                fault("calls from " + name + " go " + deep + " deep or more");
            }
        }
    }

    private static int deepestFrom(String name, Map<String, String> bodies, int depth) {
        int deepest = depth;
        Matcher call = Pattern.compile("(\\w+\\.)?(\\w+)\\(").matcher(bodies.get(name));
        while (depth <= MOST_DEEP && call.find()) {
            boolean isLibrary = call.group(1) != null && Character.isUpperCase(call.group(1).charAt(0));
            if (isLibrary) {
                deepest = Math.max(deepest, depth + 1);
            } else if (bodies.containsKey(call.group(2))) {
                deepest = Math.max(deepest, deepestFrom(call.group(2), bodies, depth + 1));
            }
        }
        return deepest;
    }

    private static void roomOfAnObject() throws ReflectiveOperationException {
        int room = roomOf(new FlowShape());
        if (room > MOST_ROOM) {
            fault("an object takes " + room + " fields and elements");
        }
    }

    private static int roomOf(Object thing) throws ReflectiveOperationException {
        int room = 0;
        for (Field f : thing.getClass().getDeclaredFields()) {
            if (!Modifier.isStatic(f.getModifiers())) {
                f.setAccessible(true);
                Class<?> type = f.getType();
                room += type.isPrimitive() ? 1 : type.isArray() ? 1 + Array.getLength(f.get(thing)) : 1 + roomOf(f.get(thing));
            }
        }
        return room;
    }
}

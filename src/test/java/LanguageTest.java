import java.io.IOException;
import java.lang.reflect.Constructor;
import java.lang.reflect.Field;
import java.lang.reflect.Method;
import java.lang.reflect.Modifier;
import java.nio.file.Files;
import java.nio.file.Path;
import java.util.Set;
import java.util.TreeSet;
import java.util.regex.Matcher;
import java.util.regex.Pattern;

/** The face of the class is the document's, and its text keeps to what can be seen of LANGUAGE.md. */
public final class LanguageTest {
    private static final Path SOURCE = Path.of("src/main/java/FlowShape.java");
    private static final Set<String> FACE = Set.of(
        "boolean size(int)", "boolean edge(int,int,boolean)", "boolean has(int,int)", "boolean reached(int)",
        "int reachedOnes()", "int dominator(int)", "boolean dominates(int,int)", "boolean head(int)", "int depth(int)");
    private static final String[] BARRED = {
        "\\b(throw|throws|try|catch|synchronized|assert|package|Object|System\\.(?!arraycopy)\\w+)\\b",
        "->", "::", "\\bstatic\\s*\\{", "\\w+Exact\\b", "\\bimport\\s+(?!java\\.util\\.(Arrays|ArrayList|List|Iterator);)",
        "\\bArrays\\.(?!(copyOf|copyOfRange|fill)\\b)\\w+", "\\bLong\\.(?!bitCount\\b)\\w+", "[^\\x00-\\x7f]"
    };

    private static int wrong = 0;

    public static void main(String[] args) throws IOException {
        face();
        barredText();
        System.out.println(wrong == 0 ? "the class keeps to its face and language" : wrong + " faults");
        if (wrong != 0) {
            System.exit(1);
        }
    }

    private static void fault(String what) {
        wrong++;
        System.out.println(what);
    }

    private static void face() {
        int modifiers = FlowShape.class.getModifiers();
        if (!Modifier.isPublic(modifiers) || !Modifier.isFinal(modifiers)) {
            fault("the class is not public and final");
        }
        Constructor<?>[] makers = FlowShape.class.getDeclaredConstructors();
        if (makers.length != 1 || makers[0].getParameterCount() != 0 || !Modifier.isPublic(makers[0].getModifiers())) {
            fault("the constructor is not FlowShape() alone");
        }
        methods();
        for (Field f : FlowShape.class.getDeclaredFields()) {
            boolean open = !Modifier.isPrivate(f.getModifiers());
            boolean changes = Modifier.isStatic(f.getModifiers()) && !Modifier.isFinal(f.getModifiers());
            if (open || changes) {
                fault("field " + f.getName() + " is open to others or static and not final");
            }
        }
    }

    private static void methods() {
        Set<String> open = new TreeSet<>();
        Set<String> openNames = new TreeSet<>();
        for (Method m : FlowShape.class.getDeclaredMethods()) {
            if (!Modifier.isPrivate(m.getModifiers())) {
                open.add(written(m));
                openNames.add(m.getName());
            }
        }
        if (!open.equals(new TreeSet<>(FACE))) {
            fault("the face is " + open);
        }
        for (Method m : FlowShape.class.getDeclaredMethods()) {
            if (Modifier.isPrivate(m.getModifiers()) && openNames.contains(m.getName())) {
                fault("private method " + m.getName() + " bears the name of a public one");
            }
        }
    }

    private static String written(Method m) {
        StringBuilder text = new StringBuilder(m.getReturnType().getName()).append(' ').append(m.getName()).append('(');
        for (Class<?> type : m.getParameterTypes()) {
            text.append(text.charAt(text.length() - 1) == '(' ? "" : ",").append(type.getName());
        }
        return text.append(')').toString();
    }

    private static void barredText() throws IOException {
        String code = Files.readString(SOURCE).replaceAll("(?s)/\\*.*?\\*/", " ").replaceAll("//[^\n]*", " ");
        for (String barred : BARRED) {
            Matcher found = Pattern.compile(barred).matcher(code);
            if (found.find()) {
                fault("the text has '" + found.group() + "', which LANGUAGE.md bars");
            }
        }
    }
}

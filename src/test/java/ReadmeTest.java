import java.io.IOException;
import java.lang.reflect.Method;
import java.lang.reflect.Modifier;
import java.nio.file.DirectoryStream;
import java.nio.file.Files;
import java.nio.file.Path;
import java.util.Set;
import java.util.TreeSet;
import java.util.regex.Matcher;
import java.util.regex.Pattern;

/** The calls that README.md shows answer what stands behind them, and it shows and names every method. */
public final class ReadmeTest {
    private static final Path README = Path.of("README.md");
    private static final Path TESTS = Path.of("src/test/java");
    private static final Pattern CALL = Pattern.compile("(?m)^flow\\.(\\w+)\\(([^)]*)\\);\\s*// (-?\\w+)");

    private static int wrong = 0;

    public static void main(String[] args) throws IOException, ReflectiveOperationException {
        String text = Files.readString(README);
        Set<String> shown = new TreeSet<>();
        int answers = answersShown(text, shown);
        if (answers != text.split("(?m)^flow\\.", -1).length - 1) {
            fault("a call is shown without its answer");
        }
        tellsEveryMethod(text, shown);
        namesEveryTest(text);
        System.out.println(wrong == 0 ? "README.md tells " + answers + " answers rightly" : wrong + " faults");
        if (wrong != 0) {
            System.exit(1);
        }
    }

    private static void fault(String what) {
        wrong++;
        System.out.println("README.md: " + what);
    }

    private static int answersShown(String text, Set<String> shown) throws ReflectiveOperationException {
        FlowShape flow = new FlowShape();
        int answers = 0;
        Matcher call = CALL.matcher(text);
        while (call.find()) {
            answers++;
            shown.add(call.group(1));
            String got = String.valueOf(answer(flow, call.group(1), call.group(2)));
            if (!got.equals(call.group(3))) {
                fault(call.group() + ", but the answer is " + got);
            }
        }
        return answers;
    }

    private static Object answer(FlowShape flow, String name, String arguments) throws ReflectiveOperationException {
        String[] words = arguments.isEmpty() ? new String[0] : arguments.split(", ");
        Object[] values = new Object[words.length];
        Class<?>[] types = new Class<?>[words.length];
        for (int i = 0; i < words.length; i++) {
            boolean isNumber = words[i].matches("-?\\d+");
            types[i] = isNumber ? int.class : boolean.class;
            if (isNumber) {
                values[i] = Integer.valueOf(words[i]);
            } else {
                values[i] = Boolean.valueOf(words[i]);
            }
        }
        return FlowShape.class.getMethod(name, types).invoke(flow, values);
    }

    private static void tellsEveryMethod(String text, Set<String> shown) {
        for (Method m : FlowShape.class.getDeclaredMethods()) {
            String name = m.getName();
            if (Modifier.isPublic(m.getModifiers()) && !(shown.contains(name) && text.contains("| `" + name + "("))) {
                fault("does not show and tell " + name);
            }
        }
    }

    private static void namesEveryTest(String text) throws IOException {
        try (DirectoryStream<Path> files = Files.newDirectoryStream(TESTS, "*.java")) {
            for (Path file : files) {
                if (!text.contains("`src/test/java/" + file.getFileName() + "`")) {
                    fault("does not name " + file);
                }
            }
        }
    }
}

import java.io.IOException;
import java.lang.reflect.InvocationTargetException;
import java.lang.reflect.Method;
import java.nio.file.Files;
import java.nio.file.Path;
import java.util.ArrayList;
import java.util.List;
import java.util.TreeSet;
import java.util.regex.Matcher;
import java.util.regex.Pattern;

/** README.md is read here, so that its example and its table of calls can't be other than the class is. */
public final class ReadmeTest {
    private static final Pattern NEW_OBJECT = Pattern.compile("KnotRugs rugs = new KnotRugs\\(\\);.*");
    private static final Pattern CALL = Pattern.compile(
            "rugs\\.(\\w+)\\(([-0-9, ]*)\\); +// (throws \\w+|-?[0-9]+(?:\\.[0-9]+)?)(: .*)?");
    private static final Pattern ROW = Pattern.compile("\\| `(\\w+)\\(([\\w, ]*)\\)` \\|.*\\|([^|]*)\\|");

    public static void main(String[] args) throws IOException, IllegalAccessException {
        List<String> lines = Files.readAllLines(Path.of("README.md"));
        example(lines);
        table(lines);
        Check.end();
    }

    private static void example(List<String> lines) throws IllegalAccessException {
        TreeSet<String> called = new TreeSet<>();
        KnotRugs rugs = null;
        for (String line : javaLines(lines)) {
            Matcher call = CALL.matcher(line);
            if (NEW_OBJECT.matcher(line).matches()) {
                rugs = new KnotRugs();
            } else if (call.matches() && rugs != null) {
                called.add(call.group(1));
                callStands(rugs, line, call.group(1), numbers(call.group(2)), call.group(3));
            } else {
                Check.sameText("a line of README.md", line, "a call with its answer");
            }
        }
        Check.sameText("what the example calls", called.toString(), face().toString());
    }

    private static void callStands(KnotRugs rugs, String line, String name, Object[] numbers, String due)
            throws IllegalAccessException {
        Method method = method(name, numbers.length);
        if (method == null) {
            Check.sameText("README.md calls " + name, "no such method", "a method of the face");
            return;
        }
        long before = rugs.digest();
        String got;
        try {
            got = String.valueOf(method.invoke(rugs, numbers));
        } catch (InvocationTargetException e) {
            got = "throws " + e.getCause().getClass().getSimpleName();
            Check.same("digest() behind the refused " + line, rugs.digest(), before);
        }
        Check.sameText("README.md: " + line, got, due);
    }

    /** Each call of the face stands in the table once, with its arguments and its exceptions in their order. */
    private static void table(List<String> lines) {
        List<String> told = new ArrayList<>();
        for (String line : lines) {
            Matcher row = ROW.matcher(line);
            if (row.matches()) {
                told.add(row.group(1));
                rowStands(row.group(1), split(row.group(2)).length, row.group(3).trim());
            }
        }
        told.sort(null);
        Check.sameText("the calls in the table", told.toString(), face().toString());
    }

    private static void rowStands(String name, int arguments, String due) {
        Method method = method(name, arguments);
        if (method == null) {
            Check.sameText("the table's " + name, "no such method", "a method of the face");
            return;
        }
        List<String> thrown = new ArrayList<>();
        for (Class<?> type : method.getExceptionTypes()) {
            thrown.add(type.getSimpleName().replace("Exception", ""));
        }
        Check.sameText("the exceptions of " + name, thrown.isEmpty() ? "none" : String.join(", ", thrown), due);
    }

    private static List<String> javaLines(List<String> lines) {
        List<String> inside = new ArrayList<>();
        boolean java = false;
        for (String line : lines) {
            if (line.startsWith("```")) {
                java = line.equals("```java");
            } else if (java && !line.isBlank()) {
                inside.add(line);
            }
        }
        return inside;
    }

    private static TreeSet<String> face() {
        TreeSet<String> names = new TreeSet<>();
        for (Method method : KnotRugs.class.getMethods()) {
            if (method.getDeclaringClass() == KnotRugs.class) {
                names.add(method.getName());
            }
        }
        return names;
    }

    private static Method method(String name, int arguments) {
        for (Method method : KnotRugs.class.getMethods()) {
            boolean own = method.getDeclaringClass() == KnotRugs.class;
            if (own && method.getName().equals(name) && method.getParameterCount() == arguments) {
                return method;
            }
        }
        return null;
    }

    private static Object[] numbers(String text) {
        String[] parts = split(text);
        Object[] numbers = new Object[parts.length];
        for (int i = 0; i < parts.length; i++) {
            numbers[i] = Integer.valueOf(parts[i]);
        }
        return numbers;
    }

    private static String[] split(String text) {
        return text.isBlank() ? new String[0] : text.trim().split(", *");
    }
}

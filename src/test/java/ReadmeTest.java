import java.io.IOException;
import java.lang.reflect.InvocationTargetException;
import java.lang.reflect.Method;
import java.lang.reflect.Modifier;
import java.nio.charset.StandardCharsets;
import java.nio.file.Files;
import java.nio.file.Path;
import java.util.ArrayList;
import java.util.List;
import java.util.Map;
import java.util.TreeMap;
import java.util.regex.Matcher;
import java.util.regex.Pattern;

/** README.md: it names each call with its exceptions, in order, and each example answers what stands behind it. */
public final class ReadmeTest {
    private static final Path PAGE = Path.of("README.md");
    private static final Pattern ROW = Pattern.compile("\\| `(\\w+)\\(([^)]*)\\)`( \\*)? \\|[^|]*\\|([^|]*)\\|");
    private static final Pattern MADE = Pattern.compile("TreeKayles x = new TreeKayles\\(\\);");
    private static final Pattern EXAMPLE = Pattern.compile("x\\.(\\w+)\\(([^)]*)\\); +// (throws \\w+|[-.0-9]+)(\\W.*)?");
    private static final List<String> UNDOABLE =
            List.of("node", "join", "cut", "take", "reply", "again", "load", "goBack");

    private static int asked = 0;
    private static int wrong = 0;

    public static void main(String[] args) throws IOException, IllegalAccessException {
        List<String> lines = Files.readAllLines(PAGE, StandardCharsets.UTF_8);
        calls(lines);
        examples(lines);
        System.out.println("ReadmeTest: " + (asked - wrong) + " of " + asked + " rows and examples are as due");
        if (wrong > 0) {
            System.exit(1);
        }
    }

    private static void is(String what, Object want, Object got) {
        asked++;
        if (!want.equals(got)) {
            wrong++;
            System.out.println(what + ": " + got + ", due is " + want);
        }
    }

    private static void calls(List<String> lines) {
        Map<String, String> told = new TreeMap<>();
        for (String line : lines) {
            Matcher row = ROW.matcher(line);
            if (row.matches()) {
                int parameters = row.group(2).isEmpty() ? 0 : row.group(2).split(",").length;
                String call = row.group(1) + "/" + parameters;
                is("one row for " + call, null == told.put(call, exceptionsIn(row.group(4))), true);
                is(call + " is marked", UNDOABLE.contains(row.group(1)), row.group(3) != null);
            }
        }
        is("the calls and what they throw", face(), told);
    }

    private static String exceptionsIn(String cell) {
        StringBuilder names = new StringBuilder();
        Matcher name = Pattern.compile("`(\\w+Exception)`").matcher(cell);
        while (name.find()) {
            names.append(name.group(1)).append(" ");
        }
        return names.toString();
    }

    private static Map<String, String> face() {
        Map<String, String> face = new TreeMap<>();
        for (Method method : TreeKayles.class.getDeclaredMethods()) {
            if (Modifier.isPublic(method.getModifiers())) {
                StringBuilder names = new StringBuilder();
                for (Class<?> exception : method.getExceptionTypes()) {
                    names.append(exception.getSimpleName()).append(" ");
                }
                face.put(method.getName() + "/" + method.getParameterCount(), names.toString());
            }
        }
        return face;
    }

    private static void examples(List<String> lines) throws IllegalAccessException {
        TreeKayles x = null;
        boolean isJava = false;
        int objects = 0;
        for (String line : lines) {
            if (line.startsWith("```")) {
                isJava = line.equals("```java");
            } else if (isJava && MADE.matcher(line).matches()) {
                x = new TreeKayles();
                objects++;
            } else if (isJava) {
                example(x, line);
            }
        }
        is("objects in examples", 2, objects);
    }

    private static void example(TreeKayles x, String line) throws IllegalAccessException {
        Matcher example = EXAMPLE.matcher(line);
        if (!example.matches()) {
            is("an example can be read", line, "it can not");
            return;
        }
        is(line, example.group(3), answer(x, example.group(1), arguments(example.group(2))));
    }

    private static List<Object> arguments(String text) {
        List<Object> arguments = new ArrayList<>();
        for (String one : text.isEmpty() ? new String[0] : text.split(", *")) {
            if (one.equals("true") || one.equals("false")) {
                arguments.add(one.equals("true"));
            } else if (one.startsWith("'")) {
                arguments.add((int) one.charAt(1));
            } else {
                arguments.add(one.equals("TreeKayles.NONE") ? TreeKayles.NONE : Integer.parseInt(one));
            }
        }
        return arguments;
    }

    private static String answer(TreeKayles x, String name, List<Object> arguments) throws IllegalAccessException {
        for (Method method : TreeKayles.class.getDeclaredMethods()) {
            if (method.getName().equals(name) && Modifier.isPublic(method.getModifiers())) {
                try {
                    return "" + method.invoke(x, arguments.toArray());
                } catch (InvocationTargetException e) {
                    return "throws " + e.getCause().getClass().getSimpleName();
                }
            }
        }
        return "no such call";
    }
}

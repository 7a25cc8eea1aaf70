import java.io.IOException;
import java.lang.reflect.Constructor;
import java.lang.reflect.Field;
import java.lang.reflect.Method;
import java.lang.reflect.Modifier;
import java.nio.charset.StandardCharsets;
import java.nio.file.Files;
import java.nio.file.Path;
import java.util.ArrayList;
import java.util.List;
import java.util.TreeSet;
import java.util.regex.Matcher;
import java.util.regex.Pattern;

/** The public face of the document, and rule 1 of LANGUAGE.md: nothing else can be seen from outside. */
public final class FaceTest {
    private static final String[] METHODS = {
        "int node(int) IndexOutOfBoundsException IllegalStateException",
        "int join(int,int) IndexOutOfBoundsException IllegalStateException",
        "int cut(int,int) IndexOutOfBoundsException IllegalStateException",
        "int take(int) IndexOutOfBoundsException IllegalStateException",
        "int reply() IllegalStateException",
        "int again()",
        "int append(int) IllegalArgumentException IllegalStateException",
        "int clearBuffer()",
        "int firstError()",
        "int load() IllegalArgumentException",
        "int write()",
        "int keep(int) IllegalArgumentException",
        "int goBack(int) IllegalArgumentException IllegalStateException",
        "int undo() IllegalStateException",
        "int nodeOf(int,int) IndexOutOfBoundsException IllegalArgumentException",
        "int tree(int,int) IndexOutOfBoundsException IllegalArgumentException",
        "int count(int) IllegalArgumentException",
        "int best()",
        "int length(boolean)",
        "int mirror(int) IllegalArgumentException",
        "int ifJoined(int,int) IndexOutOfBoundsException",
        "int value(int) IllegalArgumentException",
        "double openingShare()",
        "long digest()",
    };

    /** What the interface says ahead of its calls, as the document has it. */
    private static final List<String> HEADINGS = List.of(
            "---- forests", "node", "join", "cut",
            "---- the game", "take", "reply", "again",
            "---- texts, snapshots", "append", "clearBuffer", "firstError", "load", "write", "keep", "goBack", "undo",
            "---- looks; nothing is changed", "nodeOf", "tree", "count", "best", "length", "mirror", "ifJoined",
            "value", "openingShare", "digest");

    private static final Path PROGRAM = Path.of("src/main/java/TreeKayles.java");
    private static final Pattern HEADING = Pattern.compile("    // (---- .*)");
    private static final Pattern CALL = Pattern.compile("    public (?:int|long|double) (\\w+)\\(.*");

    private static int wrong = 0;

    public static void main(String[] args) throws Exception {
        must(TreeKayles.class.getModifiers() == (Modifier.PUBLIC | Modifier.FINAL), "the class is public and final");
        must(TreeKayles.class.getField("NONE").getInt(null) == -1, "NONE is -1");
        methods();
        constructors();
        fields();
        classesInside();
        headings();
        System.out.println(wrong == 0 ? "FaceTest: the face is the document's" : "FaceTest: " + wrong + " faults");
        if (wrong > 0) {
            System.exit(1);
        }
    }

    private static void must(boolean is, String what) {
        if (!is) {
            wrong++;
            System.out.println("not so: " + what);
        }
    }

    private static void methods() {
        TreeSet<String> want = new TreeSet<>(List.of(METHODS));
        TreeSet<String> got = new TreeSet<>();
        TreeSet<String> names = new TreeSet<>();
        for (Method method : TreeKayles.class.getDeclaredMethods()) {
            if (!Modifier.isPrivate(method.getModifiers()) && !method.isSynthetic()) {
                got.add(told(method));
                names.add(method.getName());
                must(method.getModifiers() == Modifier.PUBLIC, method.getName() + " is public and no more");
            }
        }
        must(want.equals(got), "the methods are " + want + "; they are " + got);
        for (Method method : ownMethods()) {
            must(!names.contains(method.getName()), "no other method bears the name " + method.getName());
        }
    }

    private static List<Method> ownMethods() {
        List<Method> methods = new ArrayList<>();
        for (Method method : TreeKayles.class.getDeclaredMethods()) {
            if (Modifier.isPrivate(method.getModifiers())) {
                methods.add(method);
            }
        }
        for (Class<?> inside : TreeKayles.class.getDeclaredClasses()) {
            methods.addAll(List.of(inside.getDeclaredMethods()));
        }
        return methods;
    }

    private static String told(Method method) {
        List<String> parameters = new ArrayList<>();
        for (Class<?> parameter : method.getParameterTypes()) {
            parameters.add(parameter.getSimpleName());
        }
        StringBuilder told = new StringBuilder(method.getReturnType().getSimpleName() + " " + method.getName());
        told.append("(").append(String.join(",", parameters)).append(")");
        for (Class<?> exception : method.getExceptionTypes()) {
            told.append(" ").append(exception.getSimpleName());
        }
        return told.toString();
    }

    private static void constructors() {
        Constructor<?>[] constructors = TreeKayles.class.getDeclaredConstructors();
        must(constructors.length == 1, "there is one constructor");
        must(constructors[0].getParameterCount() == 0, "it takes nothing");
        must(constructors[0].getModifiers() == Modifier.PUBLIC, "it is public");
    }

    private static void fields() {
        int ofObjects = 0;
        for (Field field : TreeKayles.class.getDeclaredFields()) {
            boolean isConstant = Modifier.isStatic(field.getModifiers());
            must(Modifier.isPrivate(field.getModifiers()) || field.getName().equals("NONE"), field + " is private");
            must(!isConstant || Modifier.isFinal(field.getModifiers()), field + " is final");
            ofObjects += isConstant ? 0 : 1;
        }
        must(ofObjects <= 20, "an object has at most twenty fields");
    }

    private static void classesInside() {
        Class<?>[] inside = TreeKayles.class.getDeclaredClasses();
        must(inside.length <= 11, "there are at most twelve classes");
        for (Class<?> one : inside) {
            must(Modifier.isPrivate(one.getModifiers()), one + " is private");
            must(Modifier.isStatic(one.getModifiers()), one + " is static");
        }
    }

    /** The headings and the calls, in the order in which they stand in the program's text. */
    private static void headings() throws IOException {
        List<String> found = new ArrayList<>();
        for (String line : Files.readAllLines(PROGRAM, StandardCharsets.UTF_8)) {
            Matcher heading = HEADING.matcher(line);
            Matcher call = CALL.matcher(line);
            if (call.matches() || heading.matches()) {
                found.add(call.matches() ? call.group(1) : heading.group(1));
            }
        }
        int face = Math.min(HEADINGS.size(), found.size());
        must(found.subList(0, face).equals(HEADINGS), "the headings and calls are " + HEADINGS + "; they are " + found);
    }
}

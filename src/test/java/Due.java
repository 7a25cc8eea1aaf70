import java.lang.reflect.InvocationTargetException;
import java.lang.reflect.Method;
import java.lang.reflect.Modifier;
import java.util.ArrayList;
import java.util.Comparator;
import java.util.List;

/** Compares answers with the ones that are due, and counts those that are not. */
final class Due {
    private String test = "";
    private int tests = 0;
    private int asked = 0;
    private int wrong = 0;

    /** Runs each method of the class that tells by its name which promise or term it tests. */
    void runEach(Class<?> of) throws IllegalAccessException {
        List<Method> methods = new ArrayList<>(List.of(of.getDeclaredMethods()));
        methods.removeIf(method -> !method.getName().matches("(promise|terms|exceptions)[A-Z0-9]\\w*")
                || !Modifier.isStatic(method.getModifiers()) || method.getParameterCount() > 0);
        methods.sort(Comparator.comparing(Method::getName));
        for (Method method : methods) {
            test = method.getName() + ": ";
            method.setAccessible(true);
            runOne(method);
        }
        test = "";
    }

    /** A test that stops, or that asks nothing, is wrong, too. */
    private void runOne(Method method) throws IllegalAccessException {
        tests++;
        int before = asked;
        try {
            method.invoke(null);
        } catch (InvocationTargetException e) {
            wrong++;
            System.out.println(test + "stopped by " + e.getCause());
        }
        is("asks something", 1, asked > before ? 1 : 0);
    }

    void is(String call, long want, long got) {
        asked++;
        if (want != got) {
            wrong++;
            System.out.println(test + call + " answered " + got + ", due is " + want);
        }
    }

    void isShare(String call, double want, double got) {
        is(call + " as bits", Double.doubleToLongBits(want), Double.doubleToLongBits(got));
    }

    /** The call must throw just this exception, and change nothing. */
    void fails(String call, Class<? extends RuntimeException> want, TreeKayles on, Runnable run) {
        asked++;
        long before = on.digest();
        String got = "no exception";
        try {
            run.run();
        } catch (RuntimeException e) {
            got = e.getClass().getSimpleName();
        }
        if (!got.equals(want.getSimpleName())) {
            wrong++;
            System.out.println(test + call + " gave " + got + ", due is " + want.getSimpleName());
        }
        is("digest() behind the failed " + call, before, on.digest());
    }

    void failsIndex(String call, TreeKayles on, Runnable run) {
        fails(call, IndexOutOfBoundsException.class, on, run);
    }

    void failsState(String call, TreeKayles on, Runnable run) {
        fails(call, IllegalStateException.class, on, run);
    }

    void failsArgument(String call, TreeKayles on, Runnable run) {
        fails(call, IllegalArgumentException.class, on, run);
    }

    void end(String name) {
        String told = tests == 0 ? "" : tests + " tests, ";
        System.out.println(name + ": " + told + (asked - wrong) + " of " + asked + " answers are as due");
        if (asked == 0 || wrong > 0) {
            System.exit(1);
        }
    }

    /** A new object with the forest that the text tells; one state is saved by load(). */
    static TreeKayles forest(String text) {
        TreeKayles made = new TreeKayles();
        type(made, text);
        made.load();
        return made;
    }

    static void type(TreeKayles into, String text) {
        for (int place = 0; place < text.length(); place++) {
            into.append(text.charAt(place));
        }
    }

    /** The text of a way through so many nodes, one behind the other. */
    static String path(int nodes) {
        return ".abcdefghijklm".substring(0, nodes);
    }

    /** The text of so many lone nodes. */
    static String lone(int nodes) {
        return "..............".substring(0, nodes);
    }

    /** The text of a node with so many leaves. */
    static String star(int leaves) {
        return "." + "a".repeat(leaves);
    }
}

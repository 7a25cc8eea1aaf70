/** Compares answers with the ones that are due, and counts those that are not. */
final class Due {
    private int asked = 0;
    private int wrong = 0;

    void is(String call, long want, long got) {
        asked++;
        if (want != got) {
            wrong++;
            System.out.println(call + " answered " + got + ", due is " + want);
        }
    }

    void isShare(String call, double want, double got) {
        is(call + " as bits", Double.doubleToLongBits(want), Double.doubleToLongBits(got));
    }

    /** The call must throw just this exception, and change nothing. */
    void fails(String call, Class<? extends RuntimeException> want, TreeKayles on, Runnable run) {
        asked++;
        long before = on.digest();
        String got = "no exception";
        try {
            run.run();
        } catch (RuntimeException e) {
            got = e.getClass().getSimpleName();
        }
        if (!got.equals(want.getSimpleName())) {
            wrong++;
            System.out.println(call + " gave " + got + ", due is " + want.getSimpleName());
        }
        is("digest() behind the failed " + call, before, on.digest());
    }

    void failsIndex(String call, TreeKayles on, Runnable run) {
        fails(call, IndexOutOfBoundsException.class, on, run);
    }

    void failsState(String call, TreeKayles on, Runnable run) {
        fails(call, IllegalStateException.class, on, run);
    }

    void failsArgument(String call, TreeKayles on, Runnable run) {
        fails(call, IllegalArgumentException.class, on, run);
    }

    void end(String name) {
        System.out.println(name + ": " + (asked - wrong) + " of " + asked + " answers are as due");
        if (asked == 0 || wrong > 0) {
            System.exit(1);
        }
    }

    /** A new object with the forest that the text tells; one state is saved by load(). */
    static TreeKayles forest(String text) {
        TreeKayles made = new TreeKayles();
        type(made, text);
        made.load();
        return made;
    }

    static void type(TreeKayles into, String text) {
        for (int place = 0; place < text.length(); place++) {
            into.append(text.charAt(place));
        }
    }

    /** The text of a way through so many nodes, one behind the other. */
    static String path(int nodes) {
        return ".abcdefghijklm".substring(0, nodes);
    }

    /** The text of a node with so many leaves. */
    static String star(int leaves) {
        return "." + "a".repeat(leaves);
    }
}

import java.io.IOException;
import java.nio.charset.StandardCharsets;
import java.nio.file.Files;
import java.nio.file.Path;
import java.util.List;
import java.util.regex.Matcher;
import java.util.regex.Pattern;

/** Rules of ../shared/LANGUAGE.md that the program's text shows: a guard against slips, not a whole check. */
public final class LanguageTest {
    private static final Path PROGRAM = Path.of("src/main/java/TreeKayles.java");

    /** What the text must not hold anywhere, with the number of the rule. */
    private static final String[][] FORBIDDEN = {
        {"->", "3: a lambda or an arrow"},
        {"::", "3: a method reference"},
        {"\\bDouble\\b", "4: no class Double in the library"},
        {"Exact\\(", "4: no function whose name ends in Exact"},
        {"\\bpackage\\b", "the file has no package line"},
        {"\\b(try|catch|finally|synchronized|assert|instanceof)\\b", "6, 7: not needed here"},
        {"\\b(equals|hashCode|toString|getMessage)\\b", "6: not of own objects"},
        {"\"\\s*\\+|\\+\\s*\"", "10: texts are not joined by +"},
        {"\\b(Random|Thread|nanoTime|currentTimeMillis|getenv|File)\\b", "13: no clock, no randomness, no file"},
        {"[^\\n\\x20-\\x7e]", "4: another sign than plain ones"},
    };

    private static final Pattern LIBRARY = Pattern.compile("\\b(Integer|Long|Math|System|Arrays)\\.(\\w+)");
    private static final List<String> ALLOWED = List.of("Integer.bitCount", "Integer.numberOfTrailingZeros",
            "Integer.numberOfLeadingZeros", "Math.max", "Math.min", "Math.floorMod", "System.arraycopy", "Arrays.fill");
    private static final Pattern METHOD = Pattern.compile("( +)(private|public) [^=;]*\\) ?(throws [^{]*)?\\{");
    private static final int LONGEST_METHOD = 60;

    private static int wrong = 0;

    public static void main(String[] args) throws IOException {
        String text = Files.readString(PROGRAM, StandardCharsets.UTF_8);
        for (String[] rule : FORBIDDEN) {
            Matcher found = Pattern.compile(rule[0]).matcher(text);
            must(!found.find(), "rule " + rule[1]);
        }
        library(text);
        methods(List.of(text.split("\n")));
        System.out.println(wrong == 0 ? "LanguageTest: no slip was found" : "LanguageTest: " + wrong + " slips");
        if (wrong > 0) {
            System.exit(1);
        }
    }

    private static void must(boolean is, String what) {
        if (!is) {
            wrong++;
            System.out.println("not kept: " + what);
        }
    }

    private static void library(String text) {
        Matcher imported = Pattern.compile("import ([^;]*);").matcher(text);
        while (imported.find()) {
            must(imported.group(1).equals("java.util.Arrays"), "rule 4: import " + imported.group(1));
        }
        Matcher used = LIBRARY.matcher(text);
        while (used.find()) {
            must(used.group().startsWith("Arrays;") || ALLOWED.contains(used.group()), "rule 4: " + used.group());
        }
    }

    private static void methods(List<String> lines) {
        int found = 0;
        for (int first = 0; first < lines.size(); first++) {
            Matcher method = METHOD.matcher(lines.get(first));
            if (method.matches()) {
                found++;
                int last = lines.subList(first, lines.size()).indexOf(method.group(1) + "}") + first;
                must(last - first < LONGEST_METHOD, "rule 11: a short method at line " + (first + 1));
            }
        }
        must(found > 50, "the methods were found");
    }
}

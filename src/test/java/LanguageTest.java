import java.io.IOException;
import java.nio.file.Files;
import java.nio.file.Path;
import java.util.Set;
import java.util.TreeSet;
import java.util.regex.Matcher;
import java.util.regex.Pattern;

/** The rules of ../shared/LANGUAGE.md that a text search can hold the program to. */
public final class LanguageTest {
    private static int wrong = 0;

    public static void main(String[] args) throws IOException {
        String source = Files.readString(Path.of("src/main/java/StyleDesk.java"));
        String code = source.replaceAll("(?s)/\\*.*?\\*/", "").replaceAll("//.*", "");
        none(code, "a sign beyond 127", "[^\\x09\\x0a\\x20-\\x7e]");
        none(code, "a package line", "\\bpackage\\b");
        none(code, "a lambda or a method reference", "->|::");
        none(code, "a word ruled out",
                "\\b(finally|synchronized|assert|var|native|volatile|protected|default\\s+\\w+\\s*\\()");
        none(code, "a static initialiser", "static\\s*\\{");
        none(code, "a static field that can change",
                "static (?!final )[\\w\\[\\]]+ \\w+( =|;)");
        none(code, "a static float", "static final (float|double)");
        none(code, "an exception with a text of its own making", "throw (?!new \\w+\\(\\);)");
        none(code, "a loop without a counter or a chain", "\\b(while|do)\\b");
        only(code, "import ([\\w.]+);", "java.util.Arrays", "java.util.NoSuchElementException");
        only(code, "\\b((?:Arrays|Math|Integer|Long|System|Character|Float)\\.\\w+)",
                "Arrays.copyOf", "Arrays.fill", "Math.max", "Integer.bitCount");
        only(code, "throw new (\\w+)", "IllegalArgumentException", "IllegalStateException",
                "NoSuchElementException");
        lengths(source);
        System.out.println(wrong == 0 ? "the source keeps to the rules" : wrong + " rules broken");
        if (wrong != 0) {
            System.exit(1);
        }
    }

    private static void none(String code, String what, String pattern) {
        Matcher m = Pattern.compile(pattern).matcher(code);
        if (m.find()) {
            wrong++;
            System.out.println(what + ": " + m.group());
        }
    }

    private static void only(String code, String pattern, String... allowed) {
        TreeSet<String> found = new TreeSet<>();
        Matcher m = Pattern.compile(pattern).matcher(code);
        while (m.find()) {
            found.add(m.group(1));
        }
        found.removeAll(Set.of(allowed));
        if (!found.isEmpty()) {
            wrong++;
            System.out.println("not allowed: " + found);
        }
    }

    /** Methods end with a brace that is set in as far as their first line. */
    private static void lengths(String source) {
        String[] lines = source.split("\n");
        for (int i = 0; i < lines.length; i++) {
            if (!lines[i].matches("( {4}| {8})[a-z]\\w* .*\\).*") || lines[i].endsWith(";")) {
                continue;
            }
            String end = lines[i].replaceAll("\\S.*", "") + "}";
            int last = i;
            while (last < lines.length && !lines[last].equals(end)) {
                last++;
            }
            if (last - i >= 60) {
                wrong++;
                System.out.println("too long: " + lines[i].trim());
            }
        }
    }
}

import java.io.IOException;
import java.lang.reflect.Method;
import java.lang.reflect.Modifier;
import java.nio.file.Files;
import java.nio.file.Path;
import java.util.regex.Matcher;
import java.util.regex.Pattern;

/** What README.md says of the class is true: its example, and its table of calls. */
public final class ReadmeTest {
    public static void main(String[] args) throws Exception {
        String readme = Files.readString(Path.of("README.md"));
        boolean right = printsAsWritten(block(readme, "java"), block(readme, "text"));
        for (Method m : StyleDesk.class.getDeclaredMethods()) {
            if (Modifier.isPublic(m.getModifiers()) && !hasRow(readme, m)) {
                System.out.println("README.md has no row for " + m);
                right = false;
            }
        }
        if (!right) {
            System.exit(1);
        }
        System.out.println("README.md is true");
    }

    private static String block(String readme, String language) {
        Matcher m = Pattern.compile("(?s)```" + language + "\n(.*?)```").matcher(readme);
        return m.find() ? m.group(1) : "";
    }

    private static boolean printsAsWritten(String example, String due) throws Exception {
        Path place = Files.createTempDirectory("readme");
        try {
            Path source = place.resolve("Example.java");
            Files.writeString(source, example);
            String printed = printedBy("javac", "-d", place.toString(),
                    "src/main/java/StyleDesk.java", source.toString())
                    + printedBy("java", "-cp", place.toString(), "Example");
            if (!printed.equals(due)) {
                System.out.println("the example prints\n" + printed + "README.md says\n" + due);
            }
            return printed.equals(due);
        } finally {
            clear(place);
        }
    }

    private static String printedBy(String... command) throws Exception {
        Process process = new ProcessBuilder(command)
                .redirectError(ProcessBuilder.Redirect.INHERIT).start();
        String printed = new String(process.getInputStream().readAllBytes());
        return process.waitFor() == 0 ? printed : printed + command[0] + " failed\n";
    }

    private static void clear(Path place) throws IOException {
        for (String name : place.toFile().list()) {
            Files.delete(place.resolve(name));
        }
        Files.delete(place);
    }

    /** The row names the call with as many arguments as it has, and each exception it declares. */
    private static boolean hasRow(String readme, Method m) {
        int count = m.getParameterCount();
        String arguments = count == 0 ? "" : "\\w+" + ", \\w+".repeat(count - 1);
        Matcher row = Pattern.compile("(?m)^\\| `" + m.getName() + "\\(" + arguments + "\\)`.*$")
                .matcher(readme);
        if (!row.find()) {
            return false;
        }
        for (Class<?> e : m.getExceptionTypes()) {
            if (!row.group().contains(e.getSimpleName()) && !row.group().contains("like `")) {
                return false;
            }
        }
        return true;
    }
}

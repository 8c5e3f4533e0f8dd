import java.io.IOException;
import java.lang.reflect.Method;
import java.lang.reflect.Modifier;
import java.net.URL;
import java.net.URLClassLoader;
import java.nio.file.Files;
import java.nio.file.Path;
import java.util.ArrayList;
import java.util.List;
import java.util.Set;
import java.util.TreeSet;
import java.util.regex.Matcher;
import java.util.regex.Pattern;
import java.util.stream.Collectors;
import java.util.stream.Stream;
import javax.tools.ToolProvider;

/** What README.md says of answers is what the class answers. */
public final class ReadmeTest {
    private static final Checks CHECKS = new Checks();
    private static final int EXAMPLES = 2;
    private static final Pattern EXAMPLE = Pattern.compile("```java\n(.*?)```", Pattern.DOTALL);
    private static final Pattern CALL = Pattern.compile(
            " *(int (\\w+) = )?(m\\.\\w+\\(.*\\)); +// (throws \\w+|'.'|true|false|-?\\d+)(:.*)?");
    private static final Pattern ROW = Pattern.compile(
            "^\\| `(\\w+)\\((.*)\\)` \\|(.+)\\|(.*)\\|$", Pattern.MULTILINE);
    private static final Pattern EXCEPTION = Pattern.compile(
            "IllegalState|IndexOutOfBounds|IllegalArgument");

    public static void main(String[] args) throws IOException, ReflectiveOperationException {
        String readme = Files.readString(Path.of("README.md"));
        Path folder = Files.createTempDirectory("readme");
        Matcher examples = EXAMPLE.matcher(readme);
        int count = 0;
        while (examples.find()) {
            compare(folder, "Example" + count, examples.group(1).split("\n"));
            count++;
        }
        remove(folder);
        int found = count;
        CHECKS.due("how many examples", EXAMPLES, () -> found);
        CHECKS.due("the table", callsOf(MaskedCauses.class), () -> rowsOf(readme));
        CHECKS.end();
    }

    /** Makes a class of an example, whose method tells the answer of each call with its line. */
    private static void compare(Path folder, String name, String[] lines)
            throws IOException, ReflectiveOperationException {
        StringBuilder code = new StringBuilder("public final class " + name
                + " { public static void tell(java.util.List<String> told) {\n");
        for (int i = 0; i < lines.length; i++) {
            code.append(telling(lines[i], i)).append('\n');
        }
        Path source = folder.resolve(name + ".java");
        Files.writeString(source, code.append("} }\n"));
        int exit = ToolProvider.getSystemJavaCompiler().run(null, null, null,
                "-cp", System.getProperty("java.class.path"), "-d", folder.toString(), source.toString());
        CHECKS.due(name + " compiles", 0, () -> exit);
        if (exit == 0) {
            compareAnswers(lines, toldBy(folder, name));
        }
    }

    private static void remove(Path folder) throws IOException {
        try (Stream<Path> files = Files.list(folder)) {
            files.forEach(file -> file.toFile().delete());
        }
        Files.delete(folder);
    }

    private static String telling(String line, int number) {
        Matcher call = CALL.matcher(line);
        if (!call.matches()) {
            return line;
        }
        String tell = "told.add(\"" + number + " \" + ";
        if (call.group(1) != null) {
            return "int " + call.group(2) + " = " + call.group(3) + "; " + tell + call.group(2) + ");";
        }
        return "try { " + tell + call.group(3) + "); } catch (RuntimeException e) { "
                + tell + "\"throws \" + e.getClass().getSimpleName()); }";
    }

    private static List<String> toldBy(Path folder, String name)
            throws IOException, ReflectiveOperationException {
        List<String> told = new ArrayList<>();
        try (URLClassLoader loader = new URLClassLoader(new URL[] {folder.toUri().toURL()})) {
            loader.loadClass(name).getMethod("tell", List.class).invoke(null, told);
        }
        return told;
    }

    /** Each line with a call has its answer behind it, and tells just that, once or more. */
    private static void compareAnswers(String[] lines, List<String> told) {
        for (int i = 0; i < lines.length; i++) {
            String line = lines[i];
            Matcher call = CALL.matcher(line);
            if (call.matches()) {
                String number = i + " ";
                String want = call.group(4).replaceFirst("^'(.)'$", "$1");
                CHECKS.due(line, Set.of(want), () -> told.stream().filter(t -> t.startsWith(number))
                        .map(t -> t.substring(number.length())).collect(Collectors.toSet()));
            } else {
                CHECKS.due("a call without its answer: " + line, false, () -> line.contains("m."));
            }
        }
    }

    /** Each call of the face with the exceptions it lists, in their order. */
    private static Set<String> callsOf(Class<?> face) {
        Set<String> calls = new TreeSet<>();
        for (Method m : face.getDeclaredMethods()) {
            if (Modifier.isPublic(m.getModifiers())) {
                String throwing = Stream.of(m.getExceptionTypes())
                        .map(e -> " " + e.getSimpleName().replace("Exception", ""))
                        .collect(Collectors.joining());
                calls.add(m.getName() + " of " + m.getParameterCount() + throwing);
            }
        }
        return calls;
    }

    private static Set<String> rowsOf(String readme) {
        Set<String> calls = new TreeSet<>();
        Matcher row = ROW.matcher(readme);
        while (row.find()) {
            String taken = row.group(2);
            int parameters = taken.isEmpty() ? 0 : taken.split(", ").length;
            String throwing = EXCEPTION.matcher(row.group(4)).results()
                    .map(e -> " " + e.group()).collect(Collectors.joining());
            calls.add(row.group(1) + " of " + parameters + throwing);
        }
        return calls;
    }
}

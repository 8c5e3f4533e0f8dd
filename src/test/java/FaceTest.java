import java.lang.reflect.Constructor;
import java.lang.reflect.Field;
import java.lang.reflect.Method;
import java.lang.reflect.Modifier;
import java.util.Arrays;
import java.util.Set;
import java.util.TreeSet;
import java.util.stream.Collectors;
import java.util.stream.Stream;

/** The public face of the document, and rule 1 of the language: nothing else can be seen. */
public final class FaceTest {
    private static final Checks CHECKS = new Checks();
    private static final String STATE = "IllegalStateException";
    private static final String INDEX = "IndexOutOfBoundsException";
    private static final String ARGUMENT = "IllegalArgumentException";

    private static final String[] FACE = {
        "int input(int, int) " + STATE + " " + ARGUMENT,
        "int condition(int, int, int, int) " + STATE + " " + INDEX + " " + ARGUMENT,
        "boolean type(char)",
        "int wipe()",
        "int decision(boolean) " + STATE,
        "int conditions(int) " + INDEX,
        "int show(int) " + INDEX,
        "int feasible(int) " + INDEX,
        "int vector(int, int, int) " + INDEX + " " + STATE,
        "boolean outcome(int, int) " + INDEX,
        "boolean evaluated(int, int, int) " + INDEX,
        "int solve(int, int, int) " + INDEX + " " + ARGUMENT,
        "int suite(int, int) " + INDEX + " " + ARGUMENT,
        "int suiteAt(int)",
        "int least(int, int) " + INDEX + " " + ARGUMENT,
        "int keep(int, int, int) " + STATE + " " + ARGUMENT,
        "int forget()",
        "boolean covered(int, int, int) " + INDEX + " " + ARGUMENT,
        "int missing(int, int) " + INDEX + " " + ARGUMENT,
        "int length()",
        "char charAt(int)",
    };

    public static void main(String[] args) {
        Class<?> face = MaskedCauses.class;
        CHECKS.due("the class", "public final", () -> Modifier.toString(face.getModifiers()));
        CHECKS.due("methods", new TreeSet<>(Arrays.asList(FACE)), () -> visibleMethods(face));
        CHECKS.due("constants", Set.of("NONE"), () -> Stream.of(face.getDeclaredFields())
                .filter(f -> !Modifier.isPrivate(f.getModifiers())).map(Field::getName)
                .collect(Collectors.toSet()));
        CHECKS.due("constructors", "[public MaskedCauses()]", () -> Stream.of(face.getDeclaredConstructors())
                .map(Constructor::toString).collect(Collectors.toList()).toString());
        CHECKS.due("private methods with a public name", Set.of(), () -> clashes(face));
        CHECKS.end();
    }

    private static Set<String> visibleMethods(Class<?> face) {
        Set<String> found = new TreeSet<>();
        for (Method m : face.getDeclaredMethods()) {
            if (!Modifier.isPrivate(m.getModifiers())) {
                String takes = Stream.of(m.getParameterTypes()).map(Class::getSimpleName)
                        .collect(Collectors.joining(", "));
                String throwing = Stream.of(m.getExceptionTypes()).map(e -> " " + e.getSimpleName())
                        .collect(Collectors.joining());
                found.add(m.getReturnType() + " " + m.getName() + "(" + takes + ")" + throwing);
            }
        }
        return found;
    }

    private static Set<String> clashes(Class<?> face) {
        Set<String> names = Stream.of(face.getMethods()).filter(m -> m.getDeclaringClass() == face)
                .map(Method::getName).collect(Collectors.toSet());
        Stream<Class<?>> all = Stream.concat(Stream.of(face), Stream.of(face.getDeclaredClasses()));
        Set<String> found = all.flatMap(c -> Stream.of(c.getDeclaredMethods()))
                .filter(m -> Modifier.isPrivate(m.getModifiers())).map(Method::getName)
                .collect(Collectors.toCollection(TreeSet::new));
        found.retainAll(names);
        return found;
    }
}

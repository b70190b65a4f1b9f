import java.io.IOException;
import java.lang.reflect.Executable;
import java.lang.reflect.Field;
import java.lang.reflect.Modifier;
import java.nio.charset.StandardCharsets;
import java.nio.file.Files;
import java.nio.file.Path;
import java.util.ArrayList;
import java.util.Arrays;
import java.util.List;
import java.util.Set;
import java.util.regex.Pattern;
import java.util.stream.Collectors;
import java.util.stream.Stream;

/** Rules of LANGUAGE.md that a program can look after, by the source and by reflection. */
public final class LanguageTest {
    private static final Set<String> IMPORTS =
            Set.of("java.util.Arrays", "java.util.NoSuchElementException");
    private static final Set<String> LIBRARY =
            Set.of("Arrays.fill", "Arrays.copyOf", "Integer.bitCount", "System.arraycopy");
    private static final String NO_WORDS = "finally|synchronized|assert|try|catch|volatile|native|"
            + "transient|lambda|var|yield|sealed|instanceof|equals|hashCode|toString|getMessage";

    public static void main(String[] args) throws IOException {
        Checks checks = new Checks();
        Path file = Path.of("src/main/java/ExamDesk.java");
        String source = Files.readString(file, StandardCharsets.US_ASCII);
        String code = withoutComments(source);
        inTheSource(checks, code);
        inTheClasses(checks);
        checks.due("methods of more than sixty lines", "[]", () -> longMethods(source));
        checks.finish("LanguageTest");
    }

    private static String withoutComments(String source) {
        return source.replaceAll("(?s)/\\*.*?\\*/", "").replaceAll("//[^\n]*", "");
    }

    private static void inTheSource(Checks checks, String code) {
        checks.due("rule 4, imports", "[]", () -> others(code, "import ([\\w.]+);", IMPORTS));
        checks.due("rule 4, library", "[]",
                () -> others(code, "\\b((?:Arrays|Integer|Long|Math|System)\\.\\w+)", LIBRARY));
        checks.due("rule 2, no lambda, no method reference", "[]", () -> found(code, "->|::"));
        checks.due("rule 5, no static block", "[]", () -> found(code, "static\\s*\\{"));
        checks.due("rule 6, words", "[]", () -> found(code, "\\b(" + NO_WORDS + ")\\b"));
        checks.due("rule 6, each throw is of a written text", "[]", () -> found(code,
                "throw (?!new (IllegalState|IllegalArgument|NoSuchElement)Exception\\(\"[^\"]*\"\\);)"));
        checks.due("rule 10, no texts joined by +", "[]", () -> found(code, "\"\\s*\\+|\\+\\s*\""));
        checks.due("rule 12, objects made in loops", "[]", () -> found(code,
                "(?s)\\b(for|while) \\([^{]*\\{[^}]*\\bnew (?!IllegalState)"));
        checks.due("rule 12, calls make nothing but exceptions", "[]", () -> found(code,
                "(?m)^(?!.*throw new |.*final .* = new |        (timetable|rooms|rota) = new )"
                        + ".*\\bnew .*$"));
    }

    private static List<String> found(String code, String pattern) {
        return Pattern.compile(pattern).matcher(code).results()
                .map(r -> r.group().trim()).collect(Collectors.toList());
    }

    private static List<String> others(String code, String pattern, Set<String> allowed) {
        return Pattern.compile(pattern).matcher(code).results()
                .map(r -> r.group(1)).filter(name -> !allowed.contains(name))
                .collect(Collectors.toList());
    }

    private static void inTheClasses(Checks checks) {
        List<Class<?>> all = new ArrayList<>(Arrays.asList(ExamDesk.class.getDeclaredClasses()));
        checks.due("rule 1, classes inside are static and not open", true, () -> all.stream()
                .map(Class::getModifiers)
                .allMatch(m -> Modifier.isStatic(m) && !Modifier.isPublic(m)
                        && !Modifier.isProtected(m)));
        all.add(ExamDesk.class);
        checks.due("rule 11, classes", true, () -> all.size() <= 12);
        for (Class<?> one : all) {
            String name = one.getSimpleName();
            checks.due("rule 3, types of " + name, true, () -> fields(one, false)
                    .map(Field::getType).allMatch(LanguageTest::isAllowed));
            checks.due("rule 5, static fields of " + name, true, () -> fields(one, true)
                    .allMatch(f -> Modifier.isFinal(f.getModifiers()) && f.getType() == int.class));
            checks.due("rule 11, fields of " + name, true, () -> fields(one, false).count() <= 20);
            checks.due("rule 11, parameters in " + name, true, () -> Stream
                    .<Executable>concat(Arrays.stream(one.getDeclaredMethods()),
                            Arrays.stream(one.getDeclaredConstructors()))
                    .allMatch(m -> m.getParameterCount() <= 7));
        }
    }

    private static Stream<Field> fields(Class<?> one, boolean ofClass) {
        return Arrays.stream(one.getDeclaredFields())
                .filter(f -> Modifier.isStatic(f.getModifiers()) == ofClass);
    }

    private static boolean isAllowed(Class<?> type) {
        return Set.of(int.class, boolean.class, int[].class, boolean[].class, int[][].class)
                .contains(type) || type.getEnclosingClass() == ExamDesk.class;
    }

    /** Blank lines stand between methods and not inside them, so each such part is one at most. */
    private static List<String> longMethods(String source) {
        return Arrays.stream(source.split("\n\n"))
                .filter(part -> part.lines().count() > 60 || part.startsWith("            "))
                .map(part -> part.lines().findFirst().orElse(""))
                .collect(Collectors.toList());
    }
}

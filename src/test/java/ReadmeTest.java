import java.io.IOException;
import java.lang.reflect.InvocationTargetException;
import java.lang.reflect.Method;
import java.nio.file.Files;
import java.nio.file.Path;
import java.util.Arrays;
import java.util.HashSet;
import java.util.Set;
import java.util.regex.MatchResult;
import java.util.regex.Pattern;

/** Makes the calls of README.md's example; each one's comment begins with the answer that is due. */
public final class ReadmeTest {
    private static final Pattern CALL = Pattern.compile(
            "(?m)^desk\\.(\\w+)\\(([^)]*)\\);(?: +// ([^:\n]+)(?::[^\n]*)?)?$");
    private static final Pattern ROW = Pattern.compile("(?m)^\\| `(\\w+)\\(([^)]*)\\)` \\|");

    public static void main(String[] args) throws IOException {
        Checks checks = new Checks();
        String readme = Files.readString(Path.of("README.md"));
        String example = readme.split("```java\n")[1].split("```")[0];
        ExamDesk desk = new ExamDesk();
        checks.due("each line but the first is a call", example.lines().count() - 1,
                () -> CALL.matcher(example).results().count());
        for (MatchResult call : CALL.matcher(example).results().toList()) {
            Method method = methodOf(call.group(1));
            String want = method.getReturnType() == void.class ? "null" : call.group(3);
            checks.due(call.group(), want, () -> answer(desk, method, call.group(2)));
        }
        theTable(checks, readme);
        checks.finish("ReadmeTest");
    }

    private static void theTable(Checks checks, String readme) {
        Set<String> told = new HashSet<>();
        for (MatchResult row : ROW.matcher(readme).results().toList()) {
            told.add(row.group(1));
            checks.due("parameters in the row of " + row.group(1),
                    methodOf(row.group(1)).getParameterCount(), () -> parts(row.group(2)).length);
        }
        for (Method method : ExamDesk.class.getMethods()) {
            if (method.getDeclaringClass() == ExamDesk.class) {
                checks.due("there is a row of " + method.getName(), true,
                        () -> told.contains(method.getName()));
            }
        }
    }

    private static Method methodOf(String name) {
        return Arrays.stream(ExamDesk.class.getMethods())
                .filter(m -> m.getName().equals(name)).findFirst().orElseThrow();
    }

    private static String[] parts(String list) {
        return list.isEmpty() ? new String[0] : list.split(", ");
    }

    private static Object answer(ExamDesk desk, Method method, String list) {
        Object[] values = Arrays.stream(parts(list)).map(ReadmeTest::value).toArray();
        try {
            return method.invoke(desk, values);
        } catch (InvocationTargetException e) {
            return "throws." + e.getCause().getClass().getSimpleName();
        } catch (IllegalAccessException e) {
            return "no access";
        }
    }

    private static Object value(String word) {
        if (word.equals("true") || word.equals("false")) {
            return Boolean.valueOf(word);
        }
        return word.equals("ExamDesk.NONE") ? Integer.valueOf(ExamDesk.NONE) : Integer.valueOf(word);
    }
}

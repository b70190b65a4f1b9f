import java.lang.reflect.Field;
import java.lang.reflect.Method;
import java.lang.reflect.Modifier;
import java.util.Arrays;
import java.util.Set;
import java.util.TreeSet;
import java.util.stream.Collectors;

/** The class has the document's face and nothing else that can be seen. */
public final class FaceTest {
    private static final String NO_ELEMENT = " throws NoSuchElementException";
    private static final String NO_ELEMENT_OR_ARGUMENT =
            " throws IllegalArgumentException,NoSuchElementException";
    private static final String NO_ELEMENT_OR_STATE =
            " throws IllegalStateException,NoSuchElementException";

    private static final String[] FACE = {
        "int paper(int,int)" + NO_ELEMENT_OR_ARGUMENT,
        "int session(int,int)" + NO_ELEMENT_OR_ARGUMENT,
        "boolean enrol(int,int,boolean)" + NO_ELEMENT,
        "boolean extra(int,boolean)" + NO_ELEMENT,
        "boolean rule(int,int,int,boolean)" + NO_ELEMENT_OR_ARGUMENT,
        "int fix(int,int)" + NO_ELEMENT,
        "int clash(int,int)" + NO_ELEMENT,
        "int plan()",
        "int planned(int)" + NO_ELEMENT,
        "int strain()",
        "void room(int,int,int,boolean)" + NO_ELEMENT_OR_ARGUMENT,
        "boolean block(int,int,int,boolean)" + NO_ELEMENT_OR_STATE,
        "int seat(int)" + NO_ELEMENT_OR_STATE,
        "int leave(int,int)" + NO_ELEMENT,
        "int where(int,int)" + NO_ELEMENT,
        "int who(int,int,int,int)" + NO_ELEMENT,
        "int most(int,int)" + NO_ELEMENT_OR_ARGUMENT,
        "boolean own(int,int,boolean)" + NO_ELEMENT,
        "boolean watch(int)" + NO_ELEMENT,
        "int watcher(int,int,int)" + NO_ELEMENT,
        "int count(int) throws IllegalArgumentException",
    };

    public static void main(String[] args) {
        Checks checks = new Checks();
        Class<?> face = ExamDesk.class;
        checks.due("modifiers", Modifier.PUBLIC | Modifier.FINAL, face::getModifiers);
        checks.due("methods", new TreeSet<>(Arrays.asList(FACE)), FaceTest::openMethods);
        checks.due("fields", "[NONE]", FaceTest::openFields);
        checks.due("NONE", -1, () -> ExamDesk.NONE);
        checks.due("constructors", "[public ExamDesk()]",
                () -> Arrays.toString(face.getDeclaredConstructors()));
        checks.due("names of private methods", "[]", FaceTest::privateNamesakes);
        checks.finish("FaceTest");
    }

    private static Set<String> openMethods() {
        return Arrays.stream(ExamDesk.class.getDeclaredMethods())
                .filter(m -> !Modifier.isPrivate(m.getModifiers()))
                .map(FaceTest::text)
                .collect(Collectors.toCollection(TreeSet::new));
    }

    private static String text(Method method) {
        String parameters = Arrays.stream(method.getParameterTypes())
                .map(Class::getSimpleName).collect(Collectors.joining(","));
        String thrown = Arrays.stream(method.getExceptionTypes())
                .map(Class::getSimpleName).sorted().collect(Collectors.joining(","));
        return method.getReturnType().getSimpleName() + " " + method.getName()
                + "(" + parameters + ")" + (thrown.isEmpty() ? "" : " throws " + thrown);
    }

    private static Set<String> openFields() {
        return Arrays.stream(ExamDesk.class.getDeclaredFields())
                .filter(f -> !Modifier.isPrivate(f.getModifiers()))
                .map(Field::getName)
                .collect(Collectors.toCollection(TreeSet::new));
    }

    private static Set<String> privateNamesakes() {
        Set<String> open = Arrays.stream(ExamDesk.class.getMethods())
                .map(Method::getName).collect(Collectors.toSet());
        return Arrays.stream(ExamDesk.class.getDeclaredMethods())
                .filter(m -> Modifier.isPrivate(m.getModifiers()))
                .map(Method::getName).filter(open::contains)
                .collect(Collectors.toCollection(TreeSet::new));
    }
}

import java.io.IOException;
import java.lang.reflect.InvocationTargetException;
import java.lang.reflect.Method;
import java.nio.file.Path;
import java.util.ArrayList;
import java.util.Comparator;
import java.util.List;

/** Runs the tests of a class that tell their sentence; each fault is printed with the promise and the sentence. */
final class Sentences {
    private Sentences() {
    }

    /** The tests of a class in the order of their promises. */
    static List<Method> testsOf(Class<?> tests) {
        List<Method> told = new ArrayList<>();
        for (Method method : tests.getDeclaredMethods()) {
            if (method.isAnnotationPresent(Says.class)) {
                told.add(method);
            }
        }
        told.sort(Comparator.comparing((Method test) -> test.getAnnotation(Says.class).promise())
            .thenComparing(Method::getName));
        return told;
    }

    /** The second argument of a test is the path of the document. */
    static void hold(Class<?> tests, String[] args) throws IOException, IllegalAccessException {
        Document document = new Document(Path.of(args[1]));
        for (Method test : testsOf(tests)) {
            Says says = test.getAnnotation(Says.class);
            Due.about("promise " + says.promise() + ", \"" + says.value() + "\", " + test.getName() + ": ");
            Due.isTrue("the sentence in " + Document.partOf(says), document.holds(Document.partOf(says), says.value()));
            try {
                test.invoke(null);
            } catch (InvocationTargetException e) {
                Due.report("threw " + e.getCause());
            }
        }
        Due.about("");
        Due.end(tests.getName());
    }
}

import java.io.IOException;
import java.lang.reflect.Method;
import java.nio.file.Path;
import java.util.ArrayList;
import java.util.List;
import java.util.Map;

/** Each clause of "Terms" and of the promises has a test of its own, but for those that name no edge. */
public final class DocumentTest {
    private static final Class<?>[] TESTS = {
        TermsEdgeTest.class, HourEdgeTest.class, ChangeEdgeTest.class, AskEdgeTest.class, TextEdgeTest.class,
        SumEdgeTest.class,
    };
    /** What a call or a parameter is, where other clauses of its promise name the edges of it. */
    private static final String[] WITHOUT_EDGE = {
        "- `tone`: the tone of its bell", "- `ear`: the ear of its listener", "- `sign`: the sign",
        "- `psalm`: the psalm", "- `convent`: the convent", "- `ridge`: the ridge", "- `wind`: the wind",
        "- `ear`: the ear", "- `message`: the message", "- `character`: the character",
        "`: Sets the hours of silence of a convent.", "`: Sets the wind of a ridge.",
        "`: Sets the ear of the listener of a convent.", "`: Sends a message.", "`: Lets hours go by.",
        "`: Returns a number of a convent.", "`: Returns a number of a ridge.", "`: Returns the psalm of a sign.",
        "`: Returns a number of a message.", "`: Returns a sign of a message.",
        "`: Returns a message that waits at a convent.", "`: Returns a message that arrived.",
        "`: Returns the strength of the bell of a convent at the next one now.", "`: Returns an account.",
        "Returns the number.", "Returns the message.", "Returns the wind.", "Returns the character.",
        "Returns the mean.", "Returns the share.", "Returns the account.", "Returns whether it is so.",
        "Returns how many hours.", "Returns how many.", "Returns them as bits:",
    };

    public static void main(String[] args) throws IOException {
        List<Says> told = new ArrayList<>();
        for (Class<?> tests : TESTS) {
            for (Method test : Sentences.testsOf(tests)) {
                told.add(test.getAnnotation(Says.class));
            }
        }
        for (Map.Entry<String, List<String>> part : new Document(Path.of(args[1])).parts().entrySet()) {
            for (String clause : part.getValue()) {
                Due.isTrue("a test of \"" + clause + "\" in " + part.getKey(),
                    isTold(told, part.getKey(), clause) || isWithoutEdge(clause));
            }
        }
        Due.end("DocumentTest");
    }

    private static boolean isWithoutEdge(String clause) {
        for (String end : WITHOUT_EDGE) {
            if (clause.endsWith(end)) {
                return true;
            }
        }
        return false;
    }

    private static boolean isTold(List<Says> told, String part, String clause) {
        for (Says says : told) {
            boolean isSame = clause.contains(says.value()) || says.value().contains(clause);
            if (isSame && Document.partOf(says).equals(part)) {
                return true;
            }
        }
        return false;
    }
}

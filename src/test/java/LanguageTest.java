import java.io.IOException;
import java.lang.reflect.Constructor;
import java.lang.reflect.Field;
import java.lang.reflect.Method;
import java.lang.reflect.Modifier;
import java.nio.charset.StandardCharsets;
import java.nio.file.Files;
import java.nio.file.Path;
import java.util.ArrayList;
import java.util.List;
import java.util.regex.Matcher;
import java.util.regex.Pattern;

/** The program keeps to what of ../shared/LANGUAGE.md can be seen without reading it. It is told the program's path. */
public final class LanguageTest {
    private static final String[] RULED_OUT = {
        "package", "finally", "synchronized", "assert", "catch", "try", "volatile", "transient", "native", "var",
        "Object", "getClass", "getMessage", "equals", "hashCode", "System\\.out", "System\\.exit", "Thread", "Random",
        "\\w+Exact", "float\\s*\\[", "Float", "Double", "Long\\.valueOf", "Boolean", "Character", "HashMap", "Collections",
        "\\w+\\s*\\[\\]\\s*\\[\\]\\s*\\[\\]",
    };
    private static final int MOST_CLASSES = 12;
    private static final int MOST_FIELDS = 20;
    private static final int MOST_PARAMETERS = 7;
    private static final int MOST_LINES = 60;

    public static void main(String[] args) throws IOException {
        String source = Files.readString(Path.of(args[0]), StandardCharsets.UTF_8);
        words(source);
        imports(source);
        throwsOfTheProgram(source);
        methodsAreShort(source);
        List<Class<?>> classes = new ArrayList<>();
        collect(BellTelegraph.class, classes);
        Due.isTrue(classes.size() + " classes are few", classes.size() <= MOST_CLASSES);
        for (Class<?> one : classes) {
            shape(one);
        }
        Due.end("LanguageTest");
    }

    private static void words(String source) {
        Due.isTrue("the source has characters 9 to 126", source.chars().allMatch(c -> c == '\n' || c >= 32 && c < 127));
        Due.isTrue("no lambda", !source.contains("->"));
        Due.isTrue("no method reference", !source.contains("::"));
        String bare = source.replaceAll("/\\*\\*.*?\\*/", "").replaceAll("//[^\n]*", "");
        for (String word : RULED_OUT) {
            Due.isTrue("no " + word, !Pattern.compile("(?<![\\w.])" + word + "(?!\\w)").matcher(bare).find());
        }
    }

    private static void imports(String source) {
        Matcher matcher = Pattern.compile("(?m)^import ([^;]*);").matcher(source);
        while (matcher.find()) {
            Due.isText("an import", matcher.group(1), "java.util.NoSuchElementException");
        }
    }

    private static void throwsOfTheProgram(String source) {
        Matcher matcher = Pattern.compile("\\bthrow ([^;]*);").matcher(source);
        while (matcher.find()) {
            Due.isTrue("throw " + matcher.group(1), matcher.group(1).matches(
                "new (IllegalState|IllegalArgument|IndexOutOfBounds|Arithmetic|UnsupportedOperation|NoSuchElement)"
                    + "Exception\\(\\)"));
        }
    }

    private static void methodsAreShort(String source) {
        String[] lines = source.split("\n");
        for (int first = 0; first < lines.length; first++) {
            Matcher matcher = Pattern.compile("^( {4}| {8})\\S.*\\)[^;=]* \\{$").matcher(lines[first]);
            if (matcher.matches()) {
                int last = first;
                while (!lines[last].equals(matcher.group(1) + "}")) {
                    last++;
                }
                Due.isTrue("short is:" + lines[first], last - first < MOST_LINES);
            }
        }
    }

    private static void collect(Class<?> one, List<Class<?>> classes) {
        classes.add(one);
        for (Class<?> inside : one.getDeclaredClasses()) {
            collect(inside, classes);
        }
    }

    private static void shape(Class<?> one) {
        int fields = 0;
        for (Field field : one.getDeclaredFields()) {
            if (Modifier.isStatic(field.getModifiers())) {
                Due.isTrue(field + " is final", Modifier.isFinal(field.getModifiers()));
            } else {
                fields++;
            }
        }
        Due.isTrue(fields + " fields of " + one.getName() + " are few", fields <= MOST_FIELDS);
        for (Method method : one.getDeclaredMethods()) {
            Due.isTrue(method + " takes few", method.getParameterCount() <= MOST_PARAMETERS);
        }
        for (Constructor<?> constructor : one.getDeclaredConstructors()) {
            Due.isTrue(constructor + " takes few", constructor.getParameterCount() <= MOST_PARAMETERS);
        }
        if (one != BellTelegraph.class) {
            Due.isTrue(one.getName() + " is static", Modifier.isStatic(one.getModifiers()));
        }
    }
}

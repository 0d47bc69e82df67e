import java.lang.reflect.Constructor;
import java.lang.reflect.Field;
import java.lang.reflect.Method;
import java.lang.reflect.Modifier;
import java.util.Set;
import java.util.TreeSet;

/** The public face is that of the document, and nothing more. */
public final class FaceTest {
    private static final String[] FACE = {
        "int convent(int,int,int) UnsupportedOperationException",
        "int code(int,int) UnsupportedOperationException",
        "int silence(int,int,int) UnsupportedOperationException",
        "int wind(int,int) UnsupportedOperationException",
        "int ear(int,int) UnsupportedOperationException",
        "int send(int,int,int) UnsupportedOperationException",
        "int drop(int) UnsupportedOperationException",
        "int hours(int) UnsupportedOperationException",
        "int conventOf(int,int) IndexOutOfBoundsException IllegalArgumentException",
        "int ridgeOf(int,int) IndexOutOfBoundsException IllegalArgumentException",
        "int psalm(int) IllegalArgumentException",
        "int messageOf(int,int) IndexOutOfBoundsException IllegalArgumentException",
        "int sign(int,int) IndexOutOfBoundsException",
        "int signs(int) IndexOutOfBoundsException",
        "int waiting(int,int) IndexOutOfBoundsException NoSuchElementException",
        "int arrived(int) NoSuchElementException",
        "int strength(int,boolean) IndexOutOfBoundsException NoSuchElementException",
        "boolean hears(int,boolean) IndexOutOfBoundsException NoSuchElementException",
        "int windIn(int,int) IndexOutOfBoundsException IllegalArgumentException",
        "int arrivesIn(int) IndexOutOfBoundsException NoSuchElementException",
        "int wouldLose(int) IndexOutOfBoundsException NoSuchElementException",
        "int ranked(int) NoSuchElementException",
        "int lost()",
        "int lostAgain()",
        "int append(char) IllegalStateException",
        "int commands() IllegalArgumentException UnsupportedOperationException",
        "int faultPosition()",
        "int reason(int) IllegalArgumentException NoSuchElementException",
        "int line(int) IndexOutOfBoundsException",
        "char character(int) IndexOutOfBoundsException",
        "float meanEar() ArithmeticException",
        "double lostShare() ArithmeticException",
        "int account(int) IllegalArgumentException",
        "int undo() IllegalStateException",
        "int save()",
        "int restore() IllegalStateException",
    };

    public static void main(String[] args) {
        Class<BellTelegraph> face = BellTelegraph.class;
        Set<String> names = new TreeSet<>();
        Set<String> open = new TreeSet<>();
        for (Method method : face.getDeclaredMethods()) {
            if (Modifier.isPublic(method.getModifiers()) && !Modifier.isStatic(method.getModifiers())) {
                open.add(told(method));
                names.add(method.getName());
            }
        }
        Due.isText("the public methods", open.toString(), new TreeSet<>(Set.of(FACE)).toString());
        for (Method method : face.getDeclaredMethods()) {
            boolean isOfFace = open.contains(told(method));
            Due.isTrue(method + " is private or of the face", isOfFace || Modifier.isPrivate(method.getModifiers()));
            Due.isTrue(method + " bears a name of its own", isOfFace || !names.contains(method.getName()));
        }
        for (Field field : face.getDeclaredFields()) {
            Due.isTrue(field + " is private", Modifier.isPrivate(field.getModifiers()));
        }
        Constructor<?>[] constructors = face.getDeclaredConstructors();
        Due.is("the constructors", constructors.length, 1);
        Due.is("the constructor's parameters", constructors[0].getParameterCount(), 0);
        Due.isTrue("the constructor is public", Modifier.isPublic(constructors[0].getModifiers()));
        Due.isTrue("the class is public", Modifier.isPublic(face.getModifiers()));
        Due.isTrue("the class is final", Modifier.isFinal(face.getModifiers()));
        for (Class<?> inside : face.getDeclaredClasses()) {
            Due.isTrue(inside + " is private", Modifier.isPrivate(inside.getModifiers()));
            for (Method method : inside.getDeclaredMethods()) {
                Due.isTrue(method + " bears a name of its own", !names.contains(method.getName()));
            }
        }
        Due.end("FaceTest");
    }

    private static String told(Method method) {
        StringBuilder text = new StringBuilder(method.getReturnType().getSimpleName());
        text.append(' ').append(method.getName()).append('(');
        String comma = "";
        for (Class<?> parameter : method.getParameterTypes()) {
            text.append(comma).append(parameter.getSimpleName());
            comma = ",";
        }
        text.append(')');
        for (Class<?> exception : method.getExceptionTypes()) {
            text.append(' ').append(exception.getSimpleName());
        }
        return text.toString();
    }
}

import java.lang.annotation.ElementType;
import java.lang.annotation.Retention;
import java.lang.annotation.RetentionPolicy;
import java.lang.annotation.Target;

/** The sentence of ../shared/DOC.md, or the part of it, that a test holds the program to. */
@Retention(RetentionPolicy.RUNTIME)
@Target(ElementType.METHOD)
@interface Says {
    /** The promise whose calls show it, 1 to 37. */
    int promise();

    /** The paragraph of "Terms" in which the sentence stands, or nothing if it stands in the promise. */
    String terms() default "";

    String value();
}

import java.lang.annotation.ElementType;
import java.lang.annotation.Retention;
import java.lang.annotation.RetentionPolicy;
import java.lang.annotation.Target;

/** The sentence of the document that a test holds: in which section it stands, and its words. */
@Retention(RetentionPolicy.RUNTIME)
@Target(ElementType.METHOD)
@interface Sentence {
    /** "What it is", "==== 1." to "==== 5." of the Terms, or "Promise 1" to "Promise 48". */
    String in();

    /** As the document has them, but for the breaks of lines. */
    String says();
}

import java.lang.annotation.ElementType;
import java.lang.annotation.Retention;
import java.lang.annotation.RetentionPolicy;
import java.lang.annotation.Target;

/** The sentence of ../shared/DOC.md that a test holds the class to, so that one can be found from the other. */
@Retention(RetentionPolicy.RUNTIME)
@Target(ElementType.METHOD)
@interface Sentence {
    /** Where it stands: "What it is", "Terms" (to "==== 2."), "==== 2." to "==== 5.", "Promise 1" to "Promise 47". */
    String in();

    /** Its words, as they stand there. */
    String says();
}

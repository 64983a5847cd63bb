import java.lang.annotation.ElementType;
import java.lang.annotation.Retention;
import java.lang.annotation.RetentionPolicy;
import java.lang.annotation.Target;

/** The sentence of the document that a test is of: the part that it stands in, and its words. */
@Retention(RetentionPolicy.RUNTIME)
@Target(ElementType.METHOD)
@interface Sentence {
    /** "What it is", "Terms", "2. RULES", "3. DEMANDS", "REFUSALS" or "Promise 12". */
    String in();

    String says();
}

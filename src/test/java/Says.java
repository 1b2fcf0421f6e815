import java.lang.annotation.ElementType;
import java.lang.annotation.Retention;
import java.lang.annotation.RetentionPolicy;
import java.lang.annotation.Target;

/** Marks a test with the sentence of the document that it is about. */
@Retention(RetentionPolicy.RUNTIME)
@Target(ElementType.METHOD)
@interface Says {
    /** The promise; 0 for what the document says outside of the promises. */
    int promise();

    /** The sentence, without the marks round code and the full stop. */
    String value();
}

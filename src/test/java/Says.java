import java.lang.annotation.Retention;
import java.lang.annotation.RetentionPolicy;

/** The sentence of the document, or the part of it, that a test is for, word by word. */
@Retention(RetentionPolicy.RUNTIME)
@interface Says {
    String value();
}

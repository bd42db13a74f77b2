import java.lang.annotation.Retention;
import java.lang.annotation.RetentionPolicy;

/** The words of the document that a test would find broken. */
@Retention(RetentionPolicy.RUNTIME)
@interface Says {
    String[] value();
}

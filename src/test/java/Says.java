import java.lang.annotation.Retention;
import java.lang.annotation.RetentionPolicy;

/** The document's words that a test holds the class to. */
@Retention(RetentionPolicy.RUNTIME)
@interface Says {
    String value();
}

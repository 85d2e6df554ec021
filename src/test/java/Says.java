import java.lang.annotation.Retention;
import java.lang.annotation.RetentionPolicy;

/** The words of ../shared/DOC.md for which a case is made. */
@Retention(RetentionPolicy.RUNTIME)
@interface Says {
    String[] value();
}

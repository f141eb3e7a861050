import java.lang.annotation.ElementType;
import java.lang.annotation.Retention;
import java.lang.annotation.RetentionPolicy;
import java.lang.annotation.Target;

/**
 * The words of ../shared/DOC.md that a test asks about: they stand in the promise that the test is
 * named after, or ahead of the promises. DocumentTest sees to it that they do, and that no words are
 * left that no test asks about.
 */
@Retention(RetentionPolicy.RUNTIME)
@Target(ElementType.METHOD)
@interface Says {
    String[] value();
}

import java.lang.annotation.ElementType;
import java.lang.annotation.Retention;
import java.lang.annotation.RetentionPolicy;
import java.lang.annotation.Target;

/**
 * The words of ../shared/DOC.md that a test holds, as they stand there, and the promise that they bind.
 * Sentences runs such tests; DocumentTest looks for words of the document that no test holds.
 */
@Retention(RetentionPolicy.RUNTIME)
@Target(ElementType.METHOD)
@interface Says {
    int UNDER_THE_PROMISE = -1;

    int[] promise();

    /** The Term in which the words stand (0: ahead of Term 1), if they don't stand under the promise itself. */
    int term() default UNDER_THE_PROMISE;

    String text();
}

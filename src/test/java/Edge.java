import java.lang.annotation.ElementType;
import java.lang.annotation.Retention;
import java.lang.annotation.RetentionPolicy;
import java.lang.annotation.Target;

/** A test of one sentence of the document that names a boundary case. */
@Retention(RetentionPolicy.RUNTIME)
@Target(ElementType.METHOD)
@interface Edge {
    /** Where the sentence stands: "==== 1." to "==== 6.", "Promise 1" to "Promise 36", or the name of a heading. */
    String of();

    /** The sentence, or the part of it that the test is for, in the words of the document. */
    String says();
}

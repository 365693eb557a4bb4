import java.lang.annotation.ElementType;
import java.lang.annotation.Retention;
import java.lang.annotation.RetentionPolicy;
import java.lang.annotation.Target;

/** The sentence of the document that a test is for: the test fails if the sentence is broken. */
@Retention(RetentionPolicy.RUNTIME)
@Target(ElementType.METHOD)
@interface Sentence {
    /** The promise whose call shows it. */
    int promise();

    /** Whether it stands under "What it is" or "Terms", not under the heading of the promise. */
    boolean inTerms() default false;

    /** The words as they stand there; more than one, if a test is for pieces that do not stand side by side. */
    String[] says();
}

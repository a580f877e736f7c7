import java.lang.annotation.ElementType;
import java.lang.annotation.Retention;
import java.lang.annotation.RetentionPolicy;
import java.lang.annotation.Target;

/** Marks a test, static void name(Due due), with the sentence of the document that it is for. */
@Retention(RetentionPolicy.RUNTIME)
@Target(ElementType.METHOD)
@interface Sentence {
    /** The promise that the sentence stands in; of a sentence of the terms, the promise that it binds here. */
    int promise();

    /** The sentence, or the part of it that names the boundary, in the document's own words. */
    String says();
}

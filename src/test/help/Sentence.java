import java.lang.annotation.ElementType;
import java.lang.annotation.Retention;
import java.lang.annotation.RetentionPolicy;
import java.lang.annotation.Target;

/** A test of one sentence of the document, and the edge of it that is tried. */
@Retention(RetentionPolicy.RUNTIME)
@Target(ElementType.METHOD)
@interface Sentence {
    int promise();

    /** The document's own words; BoundaryTest looks whether they stand there. */
    String says();

    String edge();
}

import java.lang.annotation.ElementType;
import java.lang.annotation.Retention;
import java.lang.annotation.RetentionPolicy;
import java.lang.annotation.Target;

/** Says of which sentence of the document a test is; the method's name says which boundary of it. */
@Retention(RetentionPolicy.RUNTIME)
@Target(ElementType.METHOD)
@interface Edge {
    /** The part of DOC.md in which the sentence stands: its heading, up to a colon. */
    String of();

    /** The sentence, or what it says of this boundary, word for word. */
    String words();
}

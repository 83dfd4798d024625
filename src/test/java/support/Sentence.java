import java.lang.annotation.ElementType;
import java.lang.annotation.Retention;
import java.lang.annotation.RetentionPolicy;
import java.lang.annotation.Target;

/** Names the words of the document whose test a method is. */
@Retention(RetentionPolicy.RUNTIME)
@Target(ElementType.METHOD)
@interface Sentence {
    /** The part of the document, as {@link Document} names it. */
    String in();

    /** The very words, which stand in that part just once. */
    String says();
}

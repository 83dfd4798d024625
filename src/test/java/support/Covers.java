import java.lang.annotation.ElementType;
import java.lang.annotation.Retention;
import java.lang.annotation.RetentionPolicy;
import java.lang.annotation.Target;

/** The parts of the document each word of which stands in a sentence of one of the class's tests. */
@Retention(RetentionPolicy.RUNTIME)
@Target(ElementType.TYPE)
@interface Covers {
    String[] value();
}

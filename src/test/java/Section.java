import java.lang.annotation.ElementType;
import java.lang.annotation.Retention;
import java.lang.annotation.RetentionPolicy;
import java.lang.annotation.Target;

/** The heading in the document under which the sentences of a class of tests stand. */
@Retention(RetentionPolicy.RUNTIME)
@Target(ElementType.TYPE)
@interface Section {
    String value();
}

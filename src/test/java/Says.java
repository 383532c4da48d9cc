import java.lang.annotation.ElementType;
import java.lang.annotation.Retention;
import java.lang.annotation.RetentionPolicy;
import java.lang.annotation.Target;

/** The words of the document for whose boundary a test stands; SentencesTest looks for them there. */
@Retention(RetentionPolicy.RUNTIME)
@Target(ElementType.METHOD)
@interface Says {
    /** 0 for what stands ahead of the promises: "What it is" and "Terms". */
    int promise();

    String[] text();
}

import java.lang.annotation.Retention;
import java.lang.annotation.RetentionPolicy;

/** The sentence of ../shared/DOC.md that a test holds the class to: its heading there, and words of it as they stand. */
@Retention(RetentionPolicy.RUNTIME)
@interface Sentence {
    String at();

    String says();
}

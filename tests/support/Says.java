import java.lang.annotation.Retention;
import java.lang.annotation.RetentionPolicy;

/** The words of ../shared/DOC.md that a test holds the program to, each a piece of one section without a break. */
@Retention(RetentionPolicy.RUNTIME)
@interface Says {
    /** The heading's first words: "1. THE FLOOR", "REFUSALS", "Promise 3". */
    String in();

    String[] words();
}

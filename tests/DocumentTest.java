import java.lang.reflect.Method;
import java.util.Arrays;

/** Every word of the document's Terms and promises is quoted by some test of a sentence, so none is left without one. */
public final class DocumentTest {
    private static final Class<?>[] TESTS = {
        FloorSentencesTest.class, TickSentencesTest.class, TurnSentencesTest.class, WishSentencesTest.class,
        RefusalSentencesTest.class, PartSentencesTest.class, ShelfSentencesTest.class, WaySentencesTest.class,
    };

    public static void main(String[] args) {
        Document document = Document.read();
        int left = 0;
        for (String name : document.names()) {
            left += tellWhatIsLeft(name, document.section(name));
        }
        System.out.println(document.names().size() + " sections of the document, " + left + " passages without a test");
        if (left != 0 || document.names().isEmpty()) {
            System.exit(1);
        }
    }

    private static int tellWhatIsLeft(String name, String text) {
        boolean[] quoted = new boolean[text.length()];
        for (Class<?> tests : TESTS) {
            for (Method test : Checks.testsOf(tests)) {
                Says says = test.getAnnotation(Says.class);
                if (says.in().equals(name)) {
                    markAll(says.words(), text, quoted);
                }
            }
        }
        StringBuilder rest = new StringBuilder();
        for (int k = 0; k < quoted.length; k++) {
            rest.append(quoted[k] ? '|' : text.charAt(k));
        }
        int left = 0;
        for (String passage : rest.toString().split("\\|+")) {
            if (passage.matches(".*\\w.*")) {
                left++;
                System.out.println(name + " has words that no test quotes: " + passage.trim());
            }
        }
        return left;
    }

    private static void markAll(String[] words, String text, boolean[] quoted) {
        for (String quote : words) {
            for (int at = text.indexOf(quote); at >= 0; at = text.indexOf(quote, at + 1)) {
                Arrays.fill(quoted, at, at + quote.length(), true);
            }
        }
    }
}

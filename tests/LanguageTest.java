import java.nio.file.Files;
import java.nio.file.Path;
import java.util.regex.Matcher;
import java.util.regex.Pattern;

/** Looks through the program's text for what ../shared/LANGUAGE.md rules out and a text search can see. */
public final class LanguageTest {
    private static final String[] RULED_OUT = {
        "\\bthrow\\b", "\\bthrows\\b", "\\btry\\b", "\\bcatch\\b", "\\bsynchronized\\b", "\\bassert\\b", "->", "::", "@\\w+",
        "\\b(boolean equals|int hashCode|String toString)\\(", "\\bprotected\\b", "Exact\\b", "\\bNaN\\b", "\\bpackage\\b",
        "\\bimport (?!java\\.util\\.(Arrays|ArrayList|List|Iterator);)", "\\bSystem\\.(?!arraycopy)",
        "\\bnew \\w+\\s*\\([^)]*\\)\\s*\\{", "\\bThread\\b", "\\bRandom\\b", "\\bstatic\\s*\\{", "\\bwhile\\s*\\(true\\)",
        "\\bfor\\s*\\([^;)]*;\\s*;",
    };
    private static final String FACE = "recipe|build|builds|raze|row|set|copy|element|clear|holds|take|put|partsIn|tick|turn"
            + "|turned|cellTurn|part|sunk|wish|machines|rate|path|lay|status";

    private static int wrong = 0;

    public static void main(String[] args) throws Exception {
        String text = Files.readString(Path.of("src/main/java/FloorTurn.java"));
        String code = text.replaceAll("(?s)/\\*.*?\\*/", "").replaceAll("//[^\n]*", "");
        for (String ruledOut : RULED_OUT) {
            Matcher found = Pattern.compile(ruledOut).matcher(code);
            if (found.find()) {
                say("the program has '" + found.group() + "', ruled out by " + ruledOut);
            }
        }
        checkMembers(code);
        checkMethods(code);
        System.out.println(wrong == 0 ? "the language is kept, as far as this can see" : wrong + " breaches");
        if (wrong != 0) {
            System.exit(1);
        }
    }

    private static void say(String what) {
        wrong++;
        System.out.println(what);
    }

    /** The face's members are public, all others of the outer class private; the inner classes use other names. */
    private static void checkMembers(String code) {
        Matcher member = Pattern.compile("(?m)^    (?! |\\}|public |private |static (?:final |abstract )?(?:class|record|enum|interface) )(.+)$").matcher(code);
        while (member.find()) {
            say("a member of the class is neither public nor private: " + member.group(1));
        }
        Matcher named = Pattern.compile("(?m)^ +(?!public )(?:private )?(?:static )?[\\w\\[\\]]+ (" + FACE + ")\\(.*\\{$").matcher(code);
        while (named.find()) {
            if (!named.group().trim().startsWith("return") && !named.group().trim().startsWith("else")) {
                say("a method bears the name of a public one: " + named.group().trim());
            }
        }
    }

    /** No method is longer than sixty lines. */
    private static void checkMethods(String code) {
        String[] lines = code.split("\n");
        int start = -1;
        String indent = "";
        for (int k = 0; k < lines.length; k++) {
            Matcher head = Pattern.compile("^( {4}| {8})(?! |return|if|for|while|switch)[\\w\\[\\] ]+\\(.*\\) \\{$").matcher(lines[k]);
            if (head.find()) {
                start = k;
                indent = head.group(1);
            } else if (start >= 0 && lines[k].equals(indent + "}")) {
                if (k - start > 60) {
                    say("a method of " + (k - start) + " lines: " + lines[start].trim());
                }
                start = -1;
            }
        }
    }
}

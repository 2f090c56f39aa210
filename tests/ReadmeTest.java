import java.io.File;
import java.lang.reflect.Method;
import java.lang.reflect.Modifier;
import java.nio.file.Files;
import java.nio.file.Path;
import java.util.Set;
import java.util.TreeSet;
import java.util.regex.Matcher;
import java.util.regex.Pattern;

/** README.md's lines answer what they say, name each call of the face, and name each test. */
public final class ReadmeTest {
    private static final Pattern LINE = Pattern.compile("^floor\\.(\\w+)\\(([^)]*)\\);\\s*// (-?\\d+)(:.*)?$");

    private static int wrong = 0;

    public static void main(String[] args) throws Exception {
        String readme = Files.readString(Path.of("README.md"));
        int begin = readme.indexOf("```java\n");
        int end = readme.indexOf("\n```\n", begin + 1);
        if (begin < 0 || end < 0) {
            System.out.println("README.md has no example");
            System.exit(1);
        }
        Set<String> called = runExample(readme.substring(begin, end).split("\n"));
        for (Method method : FloorTurn.class.getDeclaredMethods()) {
            if (Modifier.isPublic(method.getModifiers()) && !called.contains(method.getName())) {
                say("the example has no call of " + method.getName());
            }
        }
        checkTests(readme);
        System.out.println(called.size() + " calls of the face in the example, " + wrong + " faults in README.md");
        if (wrong != 0) {
            System.exit(1);
        }
    }

    private static void say(String what) {
        wrong++;
        System.out.println(what);
    }

    private static Set<String> runExample(String[] lines) throws Exception {
        FloorTurn floor = new FloorTurn();
        Set<String> called = new TreeSet<>();
        for (String line : lines) {
            Matcher found = LINE.matcher(line);
            if (found.matches()) {
                called.add(found.group(1));
                String answer = String.valueOf(answer(floor, found.group(1), found.group(2).split(", ")));
                if (!answer.equals(found.group(3))) {
                    say("answered " + answer + " and not as told: " + line);
                }
            } else if (line.startsWith("floor.")) {
                say("a line that tells no answer: " + line);
            }
        }
        return called;
    }

    private static Object answer(FloorTurn floor, String name, String[] given) throws Exception {
        for (Method method : FloorTurn.class.getDeclaredMethods()) {
            if (method.getName().equals(name) && method.getParameterCount() == given.length) {
                Object[] values = new Object[given.length];
                for (int k = 0; k < given.length; k++) {
                    values[k] = value(method.getParameterTypes()[k], given[k]);
                }
                return method.invoke(floor, values);
            }
        }
        return "nothing (no such call)";
    }

    private static Object value(Class<?> type, String text) {
        if (type == boolean.class) {
            return Boolean.valueOf(text);
        }
        return type == long.class ? (Object) Long.valueOf(text) : (Object) Integer.valueOf(text);
    }

    private static void checkTests(String readme) {
        for (File test : new File("tests").listFiles()) {
            String name = test.getName().endsWith("SentencesTest.java") ? "*SentencesTest.java" : test.getName();
            if (!readme.contains("`tests/" + name + "`")) {
                say("README.md doesn't name tests/" + test.getName());
            }
        }
    }
}

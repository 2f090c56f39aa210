import java.lang.reflect.Constructor;
import java.lang.reflect.Field;
import java.lang.reflect.Method;
import java.lang.reflect.Modifier;
import java.nio.file.Files;
import java.nio.file.Path;
import java.util.Arrays;
import java.util.Set;
import java.util.TreeSet;
import java.util.stream.Collectors;

/** The class shows what the document's face shows and nothing else; its members and classes keep LANGUAGE.md's rules. */
public final class FaceTest {
    private static int wrong = 0;

    public static void main(String[] args) throws Exception {
        Set<String> due = faceOfDocument();
        Set<String> shown = faceOfClass();
        tellMissing("the class lacks: ", due, shown);
        tellMissing("the class shows what the document doesn't: ", shown, due);
        if (due.size() < 2) {
            say("the document's face can't be read");
        }
        checkKinds();
        checkMembers();
        System.out.println(due.size() + " members of the face, " + wrong + " breaches");
        if (wrong != 0) {
            System.exit(1);
        }
    }

    private static void say(String what) {
        wrong++;
        System.out.println(what);
    }

    private static void tellMissing(String lead, Set<String> wanted, Set<String> there) {
        for (String member : wanted) {
            if (!there.contains(member)) {
                say(lead + member);
            }
        }
    }

    // ---- the face

    private static Set<String> faceOfDocument() throws Exception {
        String text = Files.readString(Path.of("../shared/DOC.md"));
        int begin = text.indexOf("```java", text.indexOf("## The public face"));
        Set<String> members = new TreeSet<>();
        for (String line : text.substring(begin, text.indexOf("\n```\n", begin)).split("\n")) {
            if (line.startsWith("    public ")) {
                members.add(withoutNames(line.trim().replace(";", "")));
            }
        }
        return members;
    }

    private static String withoutNames(String member) {
        return member.replaceAll("(int|long|boolean) \\w+(?=[,)])", "$1").replace(", ", ",");
    }

    private static Set<String> faceOfClass() throws Exception {
        Set<String> members = new TreeSet<>();
        for (Field field : FloorTurn.class.getDeclaredFields()) {
            if (!Modifier.isPrivate(field.getModifiers())) {
                String value = Modifier.isStatic(field.getModifiers()) ? " = " + field.get(null) : "";
                members.add(Modifier.toString(field.getModifiers()) + " " + field.getType().getName() + " "
                        + field.getName() + value);
            }
        }
        for (Constructor<?> made : FloorTurn.class.getDeclaredConstructors()) {
            if (!Modifier.isPrivate(made.getModifiers())) {
                members.add(Modifier.toString(made.getModifiers()) + " FloorTurn(" + types(made.getParameterTypes()) + ")");
            }
        }
        for (Method method : FloorTurn.class.getDeclaredMethods()) {
            if (!Modifier.isPrivate(method.getModifiers())) {
                members.add(Modifier.toString(method.getModifiers()) + " " + method.getReturnType() + " "
                        + method.getName() + "(" + types(method.getParameterTypes()) + ")");
            }
        }
        return members;
    }

    private static String types(Class<?>[] all) {
        return Arrays.stream(all).map(Class::getName).collect(Collectors.joining(","));
    }

    // ---- the rules

    private static void checkKinds() {
        if (!Modifier.toString(FloorTurn.class.getModifiers()).equals("public final")) {
            say("the class is not public and final alone");
        }
        if (FloorTurn.class.getSuperclass() != Object.class || FloorTurn.class.getInterfaces().length != 0) {
            say("the class extends or implements something");
        }
        if (FloorTurn.class.getDeclaredClasses().length > 12) {
            say("the file has more than twelve classes inside");
        }
    }

    private static void checkMembers() {
        Set<String> face = new TreeSet<>();
        for (Method method : FloorTurn.class.getDeclaredMethods()) {
            if (Modifier.isPublic(method.getModifiers())) {
                face.add(method.getName());
            }
        }
        checkClass(FloorTurn.class, face);
        for (Class<?> inside : FloorTurn.class.getDeclaredClasses()) {
            if (!Modifier.isStatic(inside.getModifiers()) || Modifier.isPublic(inside.getModifiers())) {
                say(inside + " is public or not static");
            }
            checkClass(inside, face);
        }
    }

    private static void checkClass(Class<?> one, Set<String> face) {
        int fields = 0;
        for (Field field : one.getDeclaredFields()) {
            boolean isStatic = Modifier.isStatic(field.getModifiers());
            fields += isStatic ? 0 : 1;
            if (isStatic && !Modifier.isFinal(field.getModifiers())) {
                say(field + " is static and not final");
            }
        }
        if (fields > 20) {
            say(one + " has " + fields + " fields");
        }
        for (Method method : one.getDeclaredMethods()) {
            boolean shown = one == FloorTurn.class && Modifier.isPublic(method.getModifiers());
            if (!shown && face.contains(method.getName())) {
                say(method + " bears the name of a public one");
            }
            if (!shown && method.getParameterCount() > 7) {
                say(method + " takes more than seven parameters");
            }
        }
    }
}

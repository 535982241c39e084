import java.io.IOException;
import java.lang.reflect.Constructor;
import java.lang.reflect.Field;
import java.lang.reflect.Method;
import java.lang.reflect.Modifier;
import java.nio.charset.StandardCharsets;
import java.nio.file.Files;
import java.nio.file.Path;
import java.util.ArrayList;
import java.util.List;
import java.util.Set;
import java.util.TreeSet;
import java.util.regex.Matcher;
import java.util.regex.Pattern;

/**
 * The public face, and what of LANGUAGE.md can be seen from outside. Its
 * arguments are the program's file and the document.
 */
public final class FaceTest {
    private static final Checks checks = new Checks();

    public static void main(String[] args) throws IOException {
        String program = read(args[0]);
        faceIsAsTold(read(args[1]));
        nothingElseIsSeen();
        nestedClasses();
        noPublicNameTwice();
        staticFieldsAreFinal();
        noForbiddenWord(withoutComments(program));
        checks.close("FaceTest");
    }

    private static String read(String file) throws IOException {
        return Files.readString(Path.of(file), StandardCharsets.UTF_8);
    }

    /** Every row of the face in the document is one of the class, and no other is public. */
    private static void faceIsAsTold(String document) {
        int start = document.indexOf("```java");
        String face = document.substring(start, document.indexOf("```", start + 7));
        Set<String> told = new TreeSet<>();
        Matcher rows = Pattern.compile("    public ([^;]*);").matcher(face);
        while (rows.find()) {
            told.add(rows.group(1).replaceAll("(int|char) \\w+(?=[,)])", "$1").replaceAll(" = -\\d", ""));
        }
        Set<String> found = new TreeSet<>();
        for (Field field : CupFountain.class.getFields()) {
            found.add("static final " + field.getType() + " " + field.getName());
        }
        for (Constructor<?> constructor : CupFountain.class.getConstructors()) {
            found.add("CupFountain(" + types(constructor.getParameterTypes()) + ")");
        }
        for (Method method : CupFountain.class.getDeclaredMethods()) {
            if (Modifier.isPublic(method.getModifiers())) {
                found.add(method.getReturnType() + " " + method.getName() + "(" + types(method.getParameterTypes()) + ")");
            }
        }
        checks.due("rows of the face", found.size(), 29);
        checks.holds("the face is as told: " + told + " and not " + found, told.equals(found));
        checks.holds("the class is public and final",
            (CupFountain.class.getModifiers() & (Modifier.PUBLIC | Modifier.FINAL)) == (Modifier.PUBLIC | Modifier.FINAL));
    }

    private static String types(Class<?>[] parameters) {
        List<String> names = new ArrayList<>();
        for (Class<?> parameter : parameters) {
            names.add(parameter.getName());
        }
        return String.join(", ", names);
    }

    private static void nothingElseIsSeen() {
        for (Field field : CupFountain.class.getDeclaredFields()) {
            checks.holds(field + " is public or private", isPublicOrPrivate(field.getModifiers()));
        }
        for (Method method : CupFountain.class.getDeclaredMethods()) {
            checks.holds(method + " is public or private", isPublicOrPrivate(method.getModifiers()));
        }
        for (Constructor<?> constructor : CupFountain.class.getDeclaredConstructors()) {
            checks.holds(constructor + " is public", Modifier.isPublic(constructor.getModifiers()));
        }
    }

    private static boolean isPublicOrPrivate(int modifiers) {
        return Modifier.isPublic(modifiers) || Modifier.isPrivate(modifiers);
    }

    private static void nestedClasses() {
        Class<?>[] nested = CupFountain.class.getDeclaredClasses();
        checks.holds("some twelve classes at the most", nested.length < 12);
        for (Class<?> inside : nested) {
            int modifiers = inside.getModifiers();
            checks.holds(inside + " is static", Modifier.isStatic(modifiers));
            checks.holds(inside + " is not public", !Modifier.isPublic(modifiers) && !Modifier.isProtected(modifiers));
        }
    }

    private static void noPublicNameTwice() {
        Set<String> names = new TreeSet<>();
        for (Method method : CupFountain.class.getDeclaredMethods()) {
            if (Modifier.isPublic(method.getModifiers())) {
                names.add(method.getName());
            }
        }
        for (Class<?> inside : allClasses()) {
            for (Method method : inside.getDeclaredMethods()) {
                boolean isFace = inside == CupFountain.class && Modifier.isPublic(method.getModifiers());
                checks.holds(method + " has a name of its own", isFace || !names.contains(method.getName()));
                checks.holds(method + " has seven parameters at the most", method.getParameterCount() <= 7);
            }
        }
    }

    private static void staticFieldsAreFinal() {
        for (Class<?> inside : allClasses()) {
            for (Field field : inside.getDeclaredFields()) {
                int modifiers = field.getModifiers();
                checks.holds(field + " is final if static", !Modifier.isStatic(modifiers) || Modifier.isFinal(modifiers));
            }
        }
    }

    private static List<Class<?>> allClasses() {
        List<Class<?>> all = new ArrayList<>(List.of(CupFountain.class.getDeclaredClasses()));
        all.add(CupFountain.class);
        return all;
    }

    private static String withoutComments(String program) {
        return program.replaceAll("(?s)/\\*.*?\\*/", " ").replaceAll("//[^\n]*", " ");
    }

    private static void noForbiddenWord(String code) {
        String[] words = {"import", "package", "throw", "throws", "try", "catch", "finally", "synchronized", "assert",
            "equals", "hashCode", "toString", "Thread", "System", "Object", "protected", "volatile", "native"};
        for (String word : words) {
            checks.holds("the program has no word " + word, !Pattern.compile("\\b" + word + "\\b").matcher(code).find());
        }
        checks.holds("no lambda", !code.contains("->"));
        checks.holds("no method reference", !code.contains("::"));
        for (int i = 0; i < code.length(); i++) {
            if (code.charAt(i) >= 128) {
                checks.holds("a sign beyond 127 at " + i, false);
            }
        }
    }
}

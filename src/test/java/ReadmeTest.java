import java.io.IOException;
import java.lang.reflect.Method;
import java.nio.charset.StandardCharsets;
import java.nio.file.Files;
import java.nio.file.Path;
import java.util.regex.Matcher;
import java.util.regex.Pattern;

/** The example of README.md, its only argument, answers as it tells there. */
public final class ReadmeTest {
    private static final Checks checks = new Checks();
    private static final Pattern CALL = Pattern.compile("x\\.(\\w+)\\(([-\\d, ]*)\\); *// (-?\\d+):.*");
    private static final Pattern TYPED = Pattern.compile("for \\(char c : \"(.*)\"\\.toCharArray\\(\\)\\) \\{");

    public static void main(String[] args) throws IOException, ReflectiveOperationException {
        String readme = Files.readString(Path.of(args[0]), StandardCharsets.UTF_8);
        int start = readme.indexOf("```java");
        String example = readme.substring(start, readme.indexOf("```", start + 7));
        CupFountain x = new CupFountain();
        int calls = 0;
        for (String row : example.split("\n")) {
            calls += doRow(x, row);
        }
        checks.due("calls of the example", calls, example.split("x\\.").length - 1);
        checks.close("ReadmeTest");
    }

    /** Answers how many calls of the example the row has. */
    private static int doRow(CupFountain x, String row) throws ReflectiveOperationException {
        Matcher typed = TYPED.matcher(row);
        if (typed.matches()) {
            for (char c : typed.group(1).toCharArray()) {
                x.type(c);
            }
            return 1;
        }
        Matcher call = CALL.matcher(row);
        if (!call.matches()) {
            return 0;
        }
        checks.due(row, answer(x, call.group(1), call.group(2)), Long.parseLong(call.group(3)));
        return 1;
    }

    private static int answer(CupFountain x, String name, String list) throws ReflectiveOperationException {
        String[] words = list.isEmpty() ? new String[0] : list.split(", ");
        Class<?>[] types = new Class<?>[words.length];
        Object[] numbers = new Object[words.length];
        for (int i = 0; i < words.length; i++) {
            types[i] = int.class;
            numbers[i] = Integer.valueOf(words[i]);
        }
        Method method = CupFountain.class.getMethod(name, types);
        return (Integer) method.invoke(x, numbers);
    }
}

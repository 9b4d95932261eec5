import java.io.IOException;
import java.lang.reflect.Method;
import java.lang.reflect.Modifier;
import java.nio.file.Files;
import java.nio.file.Path;
import java.util.Arrays;
import java.util.regex.Matcher;
import java.util.regex.Pattern;

/** README.md tells the truth: its example answers what it says, and its table names the whole face. */
public final class ReadmeTest {
    private static final Pattern BLOCK = Pattern.compile("(?s)```java\n(.*?)```");
    private static final Pattern IMAGE = Pattern.compile("(?s)int\\[\\] image = \\{(.*?)\\};");
    private static final Pattern CALL = Pattern.compile("(?m)^board\\.(\\w+)\\(([\\d, ]*)\\); +// ([-\\w]+):");

    public static void main(String[] args) throws IOException, ReflectiveOperationException {
        String text = Files.readString(Path.of("README.md"));
        example(find(BLOCK, text));
        table(text);
        Checks.close("ReadmeTest");
    }

    private static String find(Pattern pattern, String text) {
        Matcher matcher = pattern.matcher(text);
        return matcher.find() ? matcher.group(1) : "";
    }

    private static void example(String code) throws ReflectiveOperationException {
        GrantKernel board = new GrantKernel();
        int[] image = numbers(find(IMAGE, code).replaceAll("//[^\n]*", ""));
        Checks.due("the example's TOTAL", image.length, 16);
        for (int k = 0; k < image.length; k++) {
            board.burn(k, image[k]);
        }
        int calls = 0;
        for (Matcher call = CALL.matcher(code); call.find(); calls++) {
            String got = String.valueOf(ask(board, call.group(1), numbers(call.group(2))));
            Checks.due("README: " + call.group() + " it answered " + got, got.equals(call.group(3)), true);
        }
        Checks.due("the example's calls with answers", calls, 9);
    }

    private static Object ask(GrantKernel board, String name, int[] numbers) throws ReflectiveOperationException {
        for (Method method : GrantKernel.class.getMethods()) {
            if (method.getName().equals(name) && method.getParameterCount() == numbers.length) {
                return method.invoke(board, Arrays.stream(numbers).boxed().toArray());
            }
        }
        return "no such method";
    }

    private static int[] numbers(String text) {
        return Pattern.compile("\\d+").matcher(text).results().mapToInt(each -> Integer.parseInt(each.group())).toArray();
    }

    private static void table(String text) {
        for (Method method : GrantKernel.class.getDeclaredMethods()) {
            if (Modifier.isPublic(method.getModifiers())) {
                String row = "\n| `" + method.getName() + "(";
                Checks.due("README has a row for " + method.getName(), text.contains(row), true);
            }
        }
    }
}

import java.io.IOException;
import java.lang.reflect.Method;
import java.lang.reflect.Modifier;
import java.nio.file.Files;
import java.nio.file.Path;
import java.util.ArrayList;
import java.util.Arrays;
import java.util.List;
import java.util.regex.Matcher;
import java.util.regex.Pattern;

/** README.md tells the truth: its example answers what it says, its table has every call and what it throws. */
public final class ReadmeTest {
    private static final Pattern STEP = Pattern.compile("shelf\\.(\\w+)\\(([\\d, ]*)\\);\\s*// (-?\\w+).*");
    private static final Pattern THROWN = Pattern.compile("\\w+Exception");

    public static void main(String[] args) throws IOException, ReflectiveOperationException {
        Check check = new Check();
        List<String> lines = Files.readAllLines(Path.of("README.md"));
        checkExample(check, lines);
        for (Method method : PostingShelf.class.getDeclaredMethods()) {
            if (Modifier.isPublic(method.getModifiers())) {
                checkRow(check, lines, method);
            }
        }
        check.end("ReadmeTest");
    }

    private static void checkExample(Check check, List<String> lines) throws ReflectiveOperationException {
        int first = lines.indexOf("```java") + 1;
        check.same("the example begins", lines.get(first), "PostingShelf shelf = new PostingShelf(300);");
        PostingShelf shelf = new PostingShelf(300);
        for (String line : lines.subList(first + 1, first + lines.subList(first, lines.size()).indexOf("```"))) {
            if (!line.isEmpty()) {
                checkStep(check, shelf, line);
            }
        }
    }

    private static void checkStep(Check check, PostingShelf shelf, String line) throws ReflectiveOperationException {
        Matcher step = STEP.matcher(line);
        check.holds("a call with its answer: " + line, step.matches());
        if (!step.matches()) {
            return;
        }
        List<Object> inputs = new ArrayList<>();
        for (String input : step.group(2).split(", ")) {
            if (!input.isEmpty()) {
                inputs.add(Integer.valueOf(input));
            }
        }
        Class<?>[] types = new Class<?>[inputs.size()];
        Arrays.fill(types, int.class);
        Method method = PostingShelf.class.getMethod(step.group(1), types);
        check.same(line, method.invoke(shelf, inputs.toArray()).toString(), step.group(3));
    }

    private static void checkRow(Check check, List<String> lines, Method method) {
        String name = method.getName();
        List<String> rows = lines.stream().filter(line -> line.startsWith("| `" + name + "(")).toList();
        check.due("rows of " + name, () -> rows.size(), 1);
        List<String> told = new ArrayList<>();
        for (String row : rows) {
            THROWN.matcher(row).results().forEach(found -> told.add(found.group()));
        }
        List<String> due = new ArrayList<>();
        for (Class<?> thrown : method.getExceptionTypes()) {
            due.add(thrown.getSimpleName());
        }
        check.same("what the row of " + name + " throws", told.toString(), due.toString());
    }
}

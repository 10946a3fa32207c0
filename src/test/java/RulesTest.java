import java.io.IOException;
import java.lang.reflect.Field;
import java.lang.reflect.Modifier;
import java.nio.file.Files;
import java.nio.file.Path;
import java.util.List;
import java.util.Set;
import java.util.TreeSet;
import java.util.regex.Matcher;
import java.util.regex.Pattern;

/** The source keeps to what can be seen, line by line, of the rules of ../shared/LANGUAGE.md. */
public final class RulesTest {
    private static final int MOST_LINES = 60;
    private static final int MOST_PARAMETERS = 7;
    private static final int MOST_CLASSES = 12;
    private static final int MOST_FIELDS = 20;

    private static final Set<String> IMPORTS =
        Set.of("java.util.ArrayList", "java.util.Arrays", "java.util.NoSuchElementException");
    private static final List<String> BANNED = List.of("->", "::", "@", "package ", "finally", "synchronized",
        "assert ", "native ", "volatile ", "static {", "Exact(", "hashCode", "toString", ".equals(", "getMessage",
        "Thread", "Random", "System.", "double", "float", "Object", "protected ", "while (true)", "for (;");
    private static final Pattern METHOD =
        Pattern.compile("^ {4,8}(?:public |private |static |abstract )*[\\w<>\\[\\]]+ (\\w+)\\((.*)\\).*\\{$");

    private static final Check CHECK = new Check();

    public static void main(String[] args) throws IOException {
        List<String> source = Files.readAllLines(Path.of("src/main/java/PostingShelf.java"));
        checkImports(source);
        checkWords(source);
        checkMethods(source);
        checkClasses();
        CHECK.end("RulesTest");
    }

    private static void checkImports(List<String> source) {
        for (String line : source) {
            if (line.startsWith("import ")) {
                CHECK.holds("may be used: " + line, IMPORTS.contains(line.substring(7, line.length() - 1)));
            }
        }
    }

    private static void checkWords(List<String> source) {
        for (String line : source) {
            String code = withoutWords(line);
            for (String banned : BANNED) {
                CHECK.holdsNot("'" + banned + "' in: " + line, code.contains(banned));
            }
        }
    }

    /** A line without its comment and without what its texts say. */
    private static String withoutWords(String line) {
        String trimmed = line.trim();
        if (trimmed.startsWith("*") || trimmed.startsWith("/*") || trimmed.startsWith("//")) {
            return "";
        }
        return line.replaceAll("\"[^\"]*\"", "\"\"").replaceAll("//.*", "");
    }

    /** A method ends with the first brace that stands as far in as its head. */
    private static void checkMethods(List<String> source) {
        Set<String> found = new TreeSet<>();
        for (int i = 0; i < source.size(); i++) {
            Matcher head = METHOD.matcher(source.get(i));
            if (head.matches()) {
                String name = head.group(1);
                found.add(name);
                String end = " ".repeat(source.get(i).indexOf(source.get(i).trim())) + "}";
                int lines = source.subList(i, source.size()).indexOf(end) + 1;
                CHECK.holds(name + " is short", lines > 0 && lines <= MOST_LINES);
                CHECK.holds(name + " takes few", head.group(2).split(",").length <= MOST_PARAMETERS);
            }
        }
        CHECK.holds("the methods are found", found.containsAll(Set.of("commit", "free", "holdsIn", "putByte")));
    }

    private static void checkClasses() {
        Class<?>[] inside = PostingShelf.class.getDeclaredClasses();
        CHECK.holds("there are few classes", inside.length < MOST_CLASSES);
        checkFields(PostingShelf.class);
        for (Class<?> one : inside) {
            checkFields(one);
        }
    }

    private static void checkFields(Class<?> one) {
        int fields = 0;
        for (Field field : one.getDeclaredFields()) {
            fields += Modifier.isStatic(field.getModifiers()) ? 0 : 1;
        }
        CHECK.holds(one.getName() + " has few fields", fields <= MOST_FIELDS);
    }
}

import java.io.IOException;
import java.lang.reflect.Field;
import java.lang.reflect.Method;
import java.lang.reflect.Modifier;
import java.nio.charset.StandardCharsets;
import java.nio.file.Files;
import java.nio.file.Path;
import java.util.ArrayList;
import java.util.List;
import java.util.Set;
import java.util.regex.Matcher;
import java.util.regex.Pattern;

/**
 * The rules of LANGUAGE.md that can be seen in the text of TripPanel.java or by reflection; FaceTest has rules 1 and 5.
 * It is narrower than the rules (no import, no try, no throw), as the class needs no more: widen it if that changes.
 */
public final class LanguageTest {
    private static final String SOURCE = "src/main/java/TripPanel.java";
    private static final Set<String> LIBRARY = Set.of("Math.max", "Math.min");
    private static final Set<Class<?>> PLAIN = Set.of(int.class, long.class, boolean.class, double.class, float.class);
    private static final int MOST_PARAMETERS = 7, MOST_LINES = 60, MOST_FIELDS = 20;
    private static final Due due = new Due("LanguageTest");

    public static void main(String[] args) throws IOException {
        String text = Files.readString(Path.of(SOURCE), StandardCharsets.UTF_8);
        String code = withoutComments(text);
        signs(text);
        oneFile(code);
        wordsThatAreOut(code);
        libraryAlone(code);
        shortMethods(code);
        for (Class<?> type : classes()) {
            fieldTypes(type);
            parameters(type);
        }
        due.end();
    }

    /** Its lines stay, so that a method's length is still that of the file. */
    private static String withoutComments(String text) {
        Matcher comments = Pattern.compile("/\\*.*?\\*/|//[^\\n]*", Pattern.DOTALL).matcher(text);
        return comments.replaceAll(found -> found.group().replaceAll("[^\\n]", ""));
    }

    private static List<Class<?>> classes() {
        List<Class<?>> all = new ArrayList<>(List.of(TripPanel.class.getDeclaredClasses()));
        all.add(TripPanel.class);
        return all;
    }

    private static void signs(String text) {
        due.sentence("Rule 4: signs are 1 to 127");
        due.holds(text.chars().allMatch(sign -> sign >= 1 && sign <= 127), "all signs of the file");
    }

    private static void oneFile(String code) {
        due.sentence("The program is one file, without a package line: one public class");
        due.holds(!has(code, "\\bpackage\\b"), "no package line");
        due.holds(!has(code, "\\bimport\\b"), "no import");
        due.is(1, count(code, "(?m)^\\S.*\\b(class|interface|enum|record)\\b"), "classes at the file's own level");
    }

    private static void wordsThatAreOut(String code) {
        due.sentence("Rules 2, 6, 13, and no exception is named in the document");
        for (String word : List.of("try", "catch", "finally", "throw", "throws", "synchronized", "assert", "native", "volatile", "var")) {
            due.holds(!has(code, "\\b" + word + "\\b"), "no " + word);
        }
        due.holds(!has(code, "->|::"), "no lambda, no method reference");
        due.holds(!has(code, "\\b(equals|hashCode|toString|getClass)\\b"), "nothing depends on which object it is");
        due.holds(!has(code, "\\bstatic\\s*\\{"), "rule 5: no static initialiser block");
    }

    private static void libraryAlone(String code) {
        due.sentence("Rule 4: The library: only what stands here");
        Matcher calls = Pattern.compile("\\b([A-Z]\\w*[a-z]\\w*)\\.(\\w+)").matcher(code);
        while (calls.find()) {
            due.holds(LIBRARY.contains(calls.group()), calls.group());
        }
        Matcher makings = Pattern.compile("\\bnew\\s+(\\w+)").matcher(code);
        while (makings.find()) {
            due.holds(makings.group(1).equals("int") || isOwn(makings.group(1)), makings.group());
        }
    }

    private static boolean isOwn(String name) {
        return classes().stream().anyMatch(type -> type.getSimpleName().equals(name));
    }

    private static void shortMethods(String code) {
        due.sentence("Rule 11: Methods stay short (some sixty lines)");
        String[] lines = code.split("\n", -1);
        int methods = 0;
        for (int from = 0; from < lines.length; from++) {
            if (lines[from].matches("( {4}| {8})\\S.*\\) \\{") && !lines[from].trim().matches("(if|for|while|switch|\\}).*")) {
                methods++;
                due.holds(linesOf(lines, from) <= MOST_LINES, lines[from].trim());
            }
        }
        due.holds(methods >= 27, "the methods were found: " + methods);
    }

    private static int linesOf(String[] lines, int from) {
        int open = 0;
        for (int line = from; line < lines.length; line++) {
            open += count(lines[line], "\\{") - count(lines[line], "\\}");
            if (open == 0) {
                return line - from + 1;
            }
        }
        return Integer.MAX_VALUE;
    }

    private static void fieldTypes(Class<?> type) {
        due.sentence("Rules 3, 5, 11: the types and the number of fields");
        int fields = 0;
        for (Field field : type.getDeclaredFields()) {
            boolean constant = Modifier.isStatic(field.getModifiers());
            fields += constant ? 0 : 1;
            due.holds(constant ? field.getType() == int.class : isAllowed(field.getType()), field.toString());
        }
        due.holds(fields <= MOST_FIELDS, type + " has " + fields + " fields");
    }

    private static boolean isAllowed(Class<?> type) {
        Class<?> element = type.isArray() ? type.getComponentType() : type;
        return PLAIN.contains(element) || classes().contains(element);
    }

    private static void parameters(Class<?> type) {
        due.sentence("Rule 11: A method takes at most seven parameters");
        for (Method method : type.getDeclaredMethods()) {
            due.holds(method.getParameterCount() <= MOST_PARAMETERS, method.toString());
        }
    }

    private static boolean has(String code, String pattern) {
        return Pattern.compile(pattern).matcher(code).find();
    }

    private static int count(String code, String pattern) {
        return (int) Pattern.compile(pattern).matcher(code).results().count();
    }
}

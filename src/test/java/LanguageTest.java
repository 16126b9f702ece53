import java.io.IOException;
import java.nio.file.Files;
import java.nio.file.Path;
import java.util.List;
import java.util.regex.Matcher;
import java.util.regex.Pattern;

/** What LANGUAGE.md rules out, as far as the source's words and lines show it. */
public final class LanguageTest {
    private static final String[] RULED_OUT = {
        "package", "try", "catch", "finally", "synchronized", "assert", "protected", "volatile", "native", "Object", "var",
        "System", "Thread", "Random", "getMessage", "hashCode", "equals", "toString", "NaN", "\\w+Exact",
    };
    private static final int MOST_LINES = 60;
    private static final int MOST_CLASSES = 12;
    private static final int MOST_PARAMETERS = 7;

    public static void main(String[] args) throws IOException {
        Checks checks = new Checks("LanguageTest");
        String source = Files.readString(Path.of("src/main/java/HorseFair.java"));
        String code = source.replaceAll("(?s)/\\*.*?\\*/", "").replaceAll("//[^\n]*", "").replaceAll("\"[^\"\n]*\"", "\"\"");
        words(checks, code);
        signs(checks, code);
        methods(checks, List.of(source.split("\n")));
        checks.close();
    }

    private static void words(Checks checks, String code) {
        for (String word : RULED_OUT) {
            checks.due("the word " + word, howOften(code, "\\b" + word + "\\b"), 0);
        }
        checks.due("imports", howOften(code, "(?m)^import "), 1);
        checks.due("import of the exception", howOften(code, "(?m)^import java\\.util\\.NoSuchElementException;$"), 1);
        checks.due("public classes", howOften(code, "\\bpublic\\b[^;{(]*\\bclass\\b"), 1);
        checks.due("classes within bounds", howOften(code, "\\b(class|enum|record|interface) \\w+") <= MOST_CLASSES, true);
        checks.due("throws of others", howOften(code,
                "\\bthrow (?!new (IndexOutOfBoundsException|NoSuchElementException)\\(\"\"\\);)"), 0);
        checks.due("static fields that change", howOften(code, "(?m)^ *(public |private )?static (?!final)[^({]*;"), 0);
    }

    private static void signs(Checks checks, String code) {
        checks.due("lambdas", howOften(code, "->"), 0);
        checks.due("method references", howOften(code, "::"), 0);
        checks.due("texts joined by +", howOften(code, "\"\" *\\+|\\+ *\"\""), 0);
        checks.due("three dimensions", howOften(code, "\\[\\]\\[\\]\\[\\]"), 0);
        checks.due("signs beyond 127", howOften(code, "[^\\x00-\\x7f]"), 0);
    }

    /** A method begins with a line that ends with "{" behind its parameters, and ends with "}" at the same indent. */
    private static void methods(Checks checks, List<String> lines) {
        Pattern head = Pattern.compile("^( +)(?!if|for|while|switch|\\})[\\w\\[\\] ]*\\w\\(([^()]*)\\)[\\w ]* \\{$");
        int methods = 0;
        for (int i = 0; i < lines.size(); i++) {
            Matcher m = head.matcher(lines.get(i));
            if (m.matches()) {
                methods++;
                int last = lines.subList(i, lines.size()).indexOf(m.group(1) + "}");
                checks.due("short: " + lines.get(i).strip(), last > 0 && last < MOST_LINES, true);
                checks.due("parameters: " + lines.get(i).strip(), m.group(2).split(",").length <= MOST_PARAMETERS, true);
            }
        }
        checks.due("methods are seen", methods > 40, true);
    }

    private static int howOften(String code, String pattern) {
        Matcher m = Pattern.compile(pattern).matcher(code);
        int many = 0;
        while (m.find()) {
            many++;
        }
        return many;
    }
}

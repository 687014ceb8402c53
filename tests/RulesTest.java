import java.io.IOException;
import java.nio.file.Files;
import java.nio.file.Path;
import java.util.List;
import java.util.regex.Matcher;
import java.util.regex.Pattern;

/** The rules of LANGUAGE.md that can be looked up in the source. */
public final class RulesTest {
    private static final List<String> THROWN = List.of("IllegalStateException", "IllegalArgumentException",
            "IndexOutOfBoundsException", "ArithmeticException", "UnsupportedOperationException", "NoSuchElementException",
            "RuntimeException");
    private static final int LONGEST_METHOD = 60;
    private static final int MOST_PARAMETERS = 7;
    private static final int MOST_CLASSES = 12;

    public static void main(String[] args) throws IOException {
        String source = Files.readString(Path.of("src/main/java/TideBook.java"));
        String code = source.replaceAll("(?s)/\\*.*?\\*/", "").replaceAll("//[^\n]*", "");
        imports(code);
        words(code);
        thrown(code);
        methods(source);
        classes(code);
        Check.finish();
    }

    private static void imports(String code) {
        Matcher m = Pattern.compile("import ([^;]+);").matcher(code);
        while (m.find()) {
            Check.yes("import " + m.group(1), m.group(1).equals("java.util.NoSuchElementException"));
        }
        Check.no("a package line", Pattern.compile("(?m)^package ").matcher(code).find());
    }

    private static void words(String code) {
        String plain = code.replaceAll("\"[^\"]*\"", "\"\"").replaceAll("'[^']'", "' '");
        for (String word : List.of("->", "::", "\\bfinally\\b", "\\bsynchronized\\b", "\\bassert\\b", "\\btry\\b",
                "\\bcatch\\b", "\\bSystem\\.(?!arraycopy)", "\\bThread\\b", "\\bRandom\\b", "\\bdouble\\b", "\\bfloat\\b",
                "Exact\\b", "\\.equals\\(", "\\bhashCode\\b", "\\btoString\\b", "\"\\s*\\+", "\\+\\s*\"", "\\bvar\\b",
                "\\bprotected\\b", "static \\{")) {
            Matcher m = Pattern.compile(word).matcher(plain);
            Check.no("the source has " + word, m.find());
        }
        Check.yes("one public class", plain.split("\\bpublic (final )?class\\b", -1).length == 2);
        for (char sign : code.toCharArray()) {
            if (sign != '\n' && (sign < 32 || sign > 126)) {
                Check.same("a sign", ' ', sign);
            }
        }
        Matcher fields = Pattern.compile("(?m)^\\s+(?:public |private )?static (?!final )(\\S+) (\\w+)( =|;)").matcher(plain);
        Check.no("a static field that is not final", fields.find());
    }

    private static void thrown(String code) {
        Matcher m = Pattern.compile("throw ([^;]*);").matcher(code);
        while (m.find()) {
            String kind = m.group(1).replaceFirst("^new (\\w+)\\(\\)$", "$1");
            Check.yes("throw " + m.group(1), THROWN.contains(kind));
        }
    }

    /** A method goes from a line that ends with an open brace to the brace of the same indent. */
    private static void methods(String source) {
        String[] lines = source.split("\n");
        Pattern head = Pattern.compile("^( {4}| {8})(?!.*\\b(class|if|for|while|switch|else)\\b)\\S.*\\(([^()]*)\\).*$");
        for (int i = 0; i < lines.length; i++) {
            String joined = lines[i].endsWith("{") || i + 1 >= lines.length ? lines[i] : lines[i] + lines[i + 1].trim();
            Matcher m = head.matcher(joined);
            if (m.matches() && joined.endsWith("{")) {
                int end = i;
                while (end < lines.length && !lines[end].equals(m.group(1) + "}")) {
                    end++;
                }
                Check.yes("length of " + joined.trim(), end - i + 1 <= LONGEST_METHOD);
                Check.yes("parameters of " + joined.trim(), m.group(3).split(",").length <= MOST_PARAMETERS);
            }
        }
    }

    private static void classes(String code) {
        int classes = code.split("\\b(class|record|enum|interface) [A-Z]", -1).length - 1;
        Check.yes("classes: " + classes, classes <= MOST_CLASSES);
    }
}

import java.io.IOException;
import java.lang.reflect.Method;
import java.nio.file.Files;
import java.nio.file.Path;
import java.util.Comparator;
import java.util.List;
import java.util.regex.Matcher;
import java.util.regex.Pattern;
import java.util.stream.Stream;

/** What README.md says of use holds: its example runs as it is written, and it names every call, and tests that there are. */
public final class ReadmeTest {
    private static final Path CLASS = Path.of("src/main/java/TideBook.java");

    public static void main(String[] args) throws IOException, InterruptedException {
        String readme = Files.readString(Path.of("README.md"));
        example(readme);
        namesEveryCall(readme);
        namesTests(readme);
        Check.finish();
    }

    private static String block(String readme, String kind) {
        Matcher m = Pattern.compile("(?s)\n```" + kind + "\n(.*?)```\n").matcher(readme);
        Check.yes("README.md has a block of " + kind, m.find());
        return m.group(1);
    }

    private static void example(String readme) throws IOException, InterruptedException {
        Path folder = Files.createTempDirectory("readme");
        Files.createDirectories(folder.resolve(CLASS).getParent());
        Files.copy(CLASS, folder.resolve(CLASS));
        Files.writeString(folder.resolve("Example.java"), block(readme, "java"));
        Process process = new ProcessBuilder("sh", "-e", "-c", block(readme, "sh"))
                .directory(folder.toFile()).redirectErrorStream(true).start();
        process.getOutputStream().close();
        String printed = new String(process.getInputStream().readAllBytes());
        Check.same("exit code of the example", 0, process.waitFor());
        boolean same = printed.equals(block(readme, "text"));
        Check.yes("the example prints what README.md says", same);
        if (!same) {
            System.out.println(printed);
        }
        remove(folder);
    }

    private static void remove(Path folder) throws IOException {
        try (Stream<Path> files = Files.walk(folder)) {
            for (Path file : files.sorted(Comparator.reverseOrder()).toList()) {
                Files.delete(file);
            }
        }
    }

    private static void namesEveryCall(String readme) {
        for (Method method : TideBook.class.getMethods()) {
            if (method.getDeclaringClass() == TideBook.class) {
                Check.yes("README.md names " + method.getName(), tableOf(readme).contains("`" + method.getName() + "`"));
            }
        }
    }

    private static List<String> tableOf(String readme) {
        return Pattern.compile("(?m)^\\| .*$").matcher(readme).results()
                .flatMap(row -> Pattern.compile("`\\w+`").matcher(row.group()).results())
                .map(name -> name.group()).toList();
    }

    private static void namesTests(String readme) throws IOException {
        Matcher named = Pattern.compile("\\b\\w+Test\\b").matcher(readme);
        while (named.find()) {
            Check.yes("there is a " + named.group(), Files.exists(Path.of("tests", named.group() + ".java")));
        }
        try (Stream<Path> files = Files.list(Path.of("tests"))) {
            for (Path file : files.toList()) {
                String name = file.getFileName().toString().replace(".java", "");
                boolean inRow = name.matches("Edge\\d+\\w+Test");
                Check.yes("README.md names " + name, inRow || !name.endsWith("Test") || readme.contains(name));
            }
        }
    }
}

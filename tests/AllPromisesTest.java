import java.io.IOException;
import java.nio.file.DirectoryStream;
import java.nio.file.Files;
import java.nio.file.Path;

/** Each promise of the document has lines of its own in some test of the project. */
public final class AllPromisesTest {
    private static final int PROMISES = 52;

    public static void main(String[] args) throws IOException {
        StringBuilder all = new StringBuilder();
        try (DirectoryStream<Path> files = Files.newDirectoryStream(Path.of("tests"), "*Test.java")) {
            for (Path file : files) {
                all.append(Files.readString(file));
            }
        }
        for (int promise = 1; promise <= PROMISES; promise++) {
            Check.yes("promise " + promise + " has a test", all.indexOf("Check.promise(" + promise + ");") >= 0);
        }
        Check.finish();
    }
}

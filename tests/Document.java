import java.io.IOException;
import java.io.UncheckedIOException;
import java.nio.file.Files;
import java.nio.file.Path;
import java.util.ArrayList;
import java.util.List;
import java.util.regex.Matcher;
import java.util.regex.Pattern;

/** The document, in which the words that a test quotes must stand. */
final class Document {
    static final int PROMISES = 52;
    private static final Path FILE = Path.of("../shared/DOC.md");
    private static final Document READ = new Document();

    private final String shared;
    private final String[] promises = new String[PROMISES + 1];

    private Document() {
        try {
            String all = Files.readString(FILE);
            Matcher head = Pattern.compile("(?m)^## Promise (\\d+): .*$").matcher(all);
            List<int[]> heads = new ArrayList<>();
            while (head.find()) {
                heads.add(new int[] {Integer.parseInt(head.group(1)), head.start(), head.end()});
            }
            for (int i = 0; i < heads.size(); i++) {
                int end = i + 1 < heads.size() ? heads.get(i + 1)[1] : all.indexOf("## Not promised");
                promises[heads.get(i)[0]] = plain(all.substring(heads.get(i)[2], end));
            }
            shared = plain(all.substring(0, heads.get(0)[1]));
        } catch (IOException e) {
            throw new UncheckedIOException(e);
        }
    }

    private static String plain(String text) {
        return text.replaceAll("\\s+", " ").trim();
    }

    /** Whether these words stand in this promise, or in what all promises share. */
    static boolean has(int promise, String words) {
        return READ.shared.contains(words) || READ.promises[promise].contains(words);
    }

    /** The part of the document that all promises share. */
    static String sharedPart() {
        return READ.shared;
    }

    /** What stands below the heading of a promise. */
    static String promise(int number) {
        return READ.promises[number];
    }
}

import java.io.IOException;
import java.nio.file.DirectoryStream;
import java.nio.file.Files;
import java.nio.file.Path;
import java.util.ArrayList;
import java.util.List;
import java.util.regex.Matcher;
import java.util.regex.Pattern;

/** Each sentence of the document that can be broken at an edge is quoted by an Edge test, promise by promise. */
public final class SentencesTest {
    private record Quote(int promise, String words) {
    }

    public static void main(String[] args) throws IOException {
        List<Quote> quotes = quotes();
        shared(quotes);
        for (int promise = 1; promise <= Document.PROMISES; promise++) {
            Check.promise(promise);
            String section = Document.promise(promise);
            // behind the call in backticks come the sentences
            String told = section.substring(section.indexOf('`', 1) + 2).trim();
            for (String sentence : sentences(told)) {
                covered(quotes, promise, sentence);
            }
        }
        Check.finish();
    }

    private static List<Quote> quotes() throws IOException {
        List<Quote> found = new ArrayList<>();
        try (DirectoryStream<Path> files = Files.newDirectoryStream(Path.of("tests"), "Edge*Test.java")) {
            for (Path file : files) {
                Matcher m = Pattern.compile("Check\\.sentence\\((\\d+), \"([^\"]*)\"\\);").matcher(Files.readString(file));
                while (m.find()) {
                    found.add(new Quote(Integer.parseInt(m.group(1)), m.group(2)));
                }
            }
        }
        return found;
    }

    private static List<String> sentences(String text) {
        return List.of(text.split("(?<=\\.) +(?=[A-Z(])|(?<=;) +(?=[A-Z]+:)"));
    }

    private static void shared(List<Quote> quotes) {
        Check.promise(1);
        String all = Document.sharedPart();
        String terms = all.substring(all.indexOf("## Terms") + 8).replaceAll("```(text)?", "").replaceAll("==== \\d\\. ", "").replaceAll(" +", " ").trim();
        for (String sentence : sentences(terms)) {
            covered(quotes, 0, sentence);
        }
    }

    /** A quote covers a sentence if one of them has the other in it; of a sentence that is but a term, if it has the term. */
    private static void covered(List<Quote> quotes, int promise, String sentence) {
        Matcher term = Pattern.compile("([A-Z]+)( of a TIDE)?(; NONE|, as bits)?\\.").matcher(sentence);
        boolean found = false;
        for (Quote quote : quotes) {
            boolean here = promise == 0 || quote.promise == promise;
            boolean has = sentence.contains(quote.words) || quote.words.contains(sentence);
            boolean hasTerm = term.matches() && Pattern.compile("\\b" + term.group(1) + "\\b").matcher(quote.words).find();
            found |= here && (has || hasTerm);
        }
        Check.yes("an Edge test quotes '" + sentence + "'", found);
    }
}

import java.util.NoSuchElementException;
import java.util.concurrent.Callable;

/** What the tests share: telling texts, comparing answers, and the exit code. */
final class Check {
    private static int wrong = 0;
    private static int asked = 0;
    private static int askedBefore = 0;
    private static boolean quoted = false;
    private static String place = "";

    private Check() {
    }

    /** The promise that the next lines are about; AllPromisesTest looks for these calls. */
    static void promise(int number) {
        closeSentence();
        place = "promise " + number + ": ";
    }

    /** The sentence that the next lines are about: a promise that shows it, and its words; SentencesTest looks for these. */
    static void sentence(int promise, String words) {
        closeSentence();
        place = "promise " + promise + ", '" + words + "': ";
        quoted = true;
        askedBefore = asked;
        if (!Document.has(promise, words)) {
            wrong++;
            System.out.println(place + "the document has no such words there");
        }
    }

    /** A quoted sentence with nothing asked about it is no test of it. */
    private static void closeSentence() {
        if (quoted && asked == askedBefore) {
            wrong++;
            System.out.println(place + "nothing was asked");
        }
        quoted = false;
    }

    static void same(String what, long want, long got) {
        asked++;
        if (want != got) {
            wrong++;
            System.out.println(place + what + " answered " + got + ", due is " + want);
        }
    }

    static void yes(String what, boolean got) {
        same(what, 1, got ? 1 : 0);
    }

    static void no(String what, boolean got) {
        same(what, 0, got ? 1 : 0);
    }

    static void fails(String what, Class<? extends RuntimeException> kind, Callable<?> call) {
        asked++;
        String got;
        try {
            got = String.valueOf(call.call());
        } catch (Exception e) {
            got = e.getClass().getName();
        }
        if (!got.equals(kind.getName())) {
            wrong++;
            System.out.println(place + what + " answered " + got + ", due is " + kind.getName());
        }
    }

    static void noIndex(String what, Callable<?> call) {
        fails(what, IndexOutOfBoundsException.class, call);
    }

    static void noArgument(String what, Callable<?> call) {
        fails(what, IllegalArgumentException.class, call);
    }

    static void noElement(String what, Callable<?> call) {
        fails(what, NoSuchElementException.class, call);
    }

    static void noState(String what, Callable<?> call) {
        fails(what, IllegalStateException.class, call);
    }

    /** The tape has these bytes alone. */
    static void tape(TideBook book, int... bytes) {
        book.end(0);
        for (int i = 0; i < bytes.length; i += 20) {
            int[] words = new int[5];
            for (int k = 0; k < 20 && i + k < bytes.length; k++) {
                words[k / 4] |= (bytes[i + k] & 255) << (24 - 8 * (k % 4));
            }
            book.feed(words[0], words[1], words[2], words[3], words[4]);
        }
        book.end(bytes.length);
    }

    static void tape(TideBook book, String text) {
        tape(book, text.chars().toArray());
    }

    static TideBook coast(String... texts) {
        TideBook book = new TideBook();
        for (String text : texts) {
            tell(book, text);
        }
        return book;
    }

    static int tell(TideBook book, String text) {
        tape(book, text);
        return book.coast();
    }

    static int rule(TideBook book, String text) {
        tape(book, text);
        return book.law();
    }

    /** A wrong text of the coast: thrown, and where its first wrong byte is. */
    static void wrongCoast(TideBook book, String text, int fault) {
        fails("coast of '" + text + "'", IllegalArgumentException.class, () -> tell(book, text));
        same("fault of '" + text + "'", fault, book.fault());
    }

    static void wrongLaw(TideBook book, String text, int fault) {
        fails("law of '" + text + "'", IllegalArgumentException.class, () -> rule(book, text));
        same("fault of '" + text + "'", fault, book.fault());
    }

    static void finish() {
        closeSentence();
        System.out.println(asked + " answers, " + wrong + " not as due");
        if (wrong != 0) {
            System.exit(1);
        }
    }
}

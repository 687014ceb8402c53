import java.lang.reflect.Method;
import java.util.ArrayList;
import java.util.Arrays;
import java.util.List;

/** The paragraph on exceptions, for all calls of the face, with numbers on both sides of every bound. */
public final class EdgeAllTest {
    private static final int[] NUMBERS = {Integer.MIN_VALUE, -101, -10, -7, -6, -5, -4, -3, -2, -1, 0, 1, 2, 3, 4, 5, 6, 7, 8, 9, 10, 11, 12, 13, 16,
        20, 39, 40, 59, 60, 61, 99, 100, 101, 399, 400, 401, 2499, 2500, 9998, 9999, 10000, Integer.MAX_VALUE};
    private static final List<String> USE_THE_TAPE = List.of("coast", "law", "send", "came", "amends", "witness");

    public static void main(String[] args) {
        throwsWhatItTells();
        twoAreOne();
        cannotBe();
        setsOfNone();
        Check.finish();
    }

    /** Numbers of which each, beside the one that is tried, is right. */
    private static int[] right(Method method) {
        return switch (method.getName()) {
            case "way", "start" -> new int[] {0, 4, 2, 3, 5};
            case "safe" -> new int[] {0, 11, 3, 5};
            default -> new int[method.getParameterCount()];
        };
    }

    private static void throwsWhatItTells() {
        Check.sentence(1, "Of several exceptions the one told first is thrown; a call that throws changes nothing but the TAPE, where it is used up.");
        for (Method method : TideBook.class.getMethods()) {
            if (method.getDeclaringClass() == TideBook.class) {
                List<String> told = new ArrayList<>();
                for (Class<?> kind : method.getExceptionTypes()) {
                    told.add(kind.getName());
                }
                for (int at = 0; at < method.getParameterCount(); at++) {
                    for (int number : method.getParameterTypes()[at] == boolean.class ? new int[] {0, 1} : NUMBERS) {
                        int[] numbers = right(method);
                        numbers[at] = number;
                        call(method.getName(), numbers, told);
                    }
                }
            }
        }
    }

    /** The call answers, or throws what it may throw; and of one that throws nothing stays. */
    private static void call(String name, int[] numbers, List<String> told) {
        TideBook book = Whole.rich();
        String answer = Calls.of(book, name, numbers);
        String what = name + Arrays.toString(numbers);
        if (!answer.matches("-?\\d+")) {
            Check.yes(what + " may throw " + answer, told.contains(answer));
            TideBook other = Whole.rich();
            if (USE_THE_TAPE.contains(name)) {
                other.end(0);
            }
            Whole.alike(what, other, book);
        }
    }

    private static void twoAreOne() {
        Check.sentence(34, "IllegalArgumentException: a number is none, or two are one.");
        // the promise itself tells no such thing of two that are one: these agree
        for (int edition = -3; edition <= 3; edition++) {
            Check.same("clash of " + edition + " and itself", 0, new TideBook().clash(edition, edition));
        }
        Whole.noArgument("clash(4, 4)", b -> b.clash(4, 4));
        Check.sentence(25, "(0, if both are one)");
        Check.same("way(7, 7, 1, 0, 0)", 0, new TideBook().way(7, 7, 1, 0, 0));
        Check.sentence(27, "all PLACES from one to another one (both, too)");
        Check.same("safe(7, 7, 9, 0)", 9, new TideBook().safe(7, 7, 9, 0));
    }

    private static void cannotBe() {
        Check.sentence(14, "IllegalStateException: it cannot be.");
        Whole.noState("goal(2, 1)", b -> b.goal(2, 1));
        Whole.noState("rest(2)", b -> b.rest(2));
        TideBook book = Whole.rich();
        while (book.count(13) != 0) {
            Check.yes("undo()", book.undo());
        }
        Check.same("one who is not DROWNED any more", 5, book.goal(2, 1));
        Check.same("one who is not DROWNED any more", 0, book.rest(2));
    }

    private static void setsOfNone() {
        Check.sentence(52, "Sets are bits; of none they count for nothing.");
        TideBook book = Check.coast("round 3;range 0 to 30");
        Check.same("neaps()", 0, book.neaps());
        Check.same("clash(0, 0)", 0, book.clash(0, 0));
        Check.same("stranded()", 0, book.stranded());
        Check.same("doomed(100)", 0, book.doomed(100));
        Check.same("done(100)", 0, book.done(100));
        Check.same("lost()", 0, book.lost());
        Check.same("trial(100, true)", 0, book.trial(100, true));
        Check.same("count(12)", 0, book.count(12));
        Check.same("count(13)", 0, book.count(13));
    }
}

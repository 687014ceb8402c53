import java.util.ArrayList;
import java.util.List;
import java.util.NoSuchElementException;
import java.util.function.Consumer;
import java.util.function.Function;
import java.util.function.Supplier;

/**
 * All that later calls can show of a book, in some 330 calls (an object is used for 512): what is
 * asked, what can be undone, the image, the tape. A book cannot be used for anything else then.
 */
final class Whole {
    private final TideBook book;
    private final List<String> answers = new ArrayList<>();

    private Whole(TideBook book) {
        this.book = book;
    }

    static List<String> of(TideBook book) {
        Whole whole = new Whole(book);
        whole.ask("fault");
        whole.now();
        whole.asked();
        whole.tapeLength();
        while (whole.ask("undo").equals("1")) {
            whole.shortly();
        }
        whole.ask("back");
        whole.now();
        whole.tapeContent();
        return whole.answers;
    }

    /** Two books that must answer alike from now on; tells the first call that they do not. */
    static void alike(String what, TideBook want, TideBook got) {
        compare(what, of(want), of(got), 0);
    }

    /** Two books that must answer alike from now on, but for fault(), which is the first that is asked. */
    static void alikeButFault(String what, TideBook want, TideBook got) {
        compare(what, of(want), of(got), 1);
    }

    private static void compare(String what, List<String> due, List<String> answered, int first) {
        for (int i = first; i < Math.min(due.size(), answered.size()); i++) {
            if (!due.get(i).equals(answered.get(i))) {
                Check.yes(what + ": later " + answered.get(i) + ", due is " + due.get(i), false);
                return;
            }
        }
        Check.same(what + ": later calls", due.size(), answered.size());
    }

    /** A call that throws, and of which nothing at all stays. */
    static void refused(String what, Class<? extends RuntimeException> kind, Supplier<TideBook> make,
            Function<TideBook, Object> call) {
        TideBook book = make.get();
        Check.fails(what, kind, () -> call.apply(book));
        alike(what, make.get(), book);
    }

    static void noIndex(String what, Function<TideBook, Object> call) {
        refused(what, IndexOutOfBoundsException.class, Whole::rich, call);
    }

    static void noArgument(String what, Function<TideBook, Object> call) {
        refused(what, IllegalArgumentException.class, Whole::rich, call);
    }

    static void noElement(String what, Function<TideBook, Object> call) {
        refused(what, NoSuchElementException.class, Whole::rich, call);
    }

    static void noState(String what, Function<TideBook, Object> call) {
        refused(what, IllegalStateException.class, Whole::rich, call);
    }

    /** A call that throws, and by which the tape alone is used up. */
    static void refusedTape(String what, Class<? extends RuntimeException> kind, Supplier<TideBook> make,
            Function<TideBook, Object> call) {
        TideBook book = make.get();
        Check.fails(what, kind, () -> call.apply(book));
        TideBook other = make.get();
        other.end(0);
        alike(what, other, book);
    }

    /** A text that is wrong at this byte: the tape is used up, and fault() tells it; else nothing stays. */
    static void wrongText(String name, String text, int fault, Supplier<TideBook> make) {
        TideBook book = make.get();
        Check.tape(book, text);
        String what = name + "() of '" + text + "'";
        Check.fails(what, IllegalArgumentException.class, () -> name.equals("law") ? book.law() : book.coast());
        Check.same(what + ", fault()", fault, book.fault());
        TideBook other = make.get();
        other.end(0);
        alikeButFault(what, other, book);
    }

    /** A call that answers, and of which nothing at all stays. */
    static void leavesAll(String what, Supplier<TideBook> make, Consumer<TideBook> call) {
        TideBook book = make.get();
        call.accept(book);
        alike(what, make.get(), book);
    }

    /** A book in the midst of a run: 3 monks, the last of them drowned, 3 duties, the last not kept, acts, an image, a tape. */
    static TideBook rich() {
        TideBook book = Check.coast("period 5;round 3;range 4 to 12;ground 0 9;ground 3 8;ground 4 7;monk 0 pace 1 goal 4;"
                + "monk 3 pace 2 goal 4;monk 5 pace 1;duty 0 from 1 to 3;duty 3 from 3 to 50;duty 9 from 40 to 50;storm 60;edition more 1",
                "error 2 less 3;error 9 more 2");
        Check.rule(book, "wade 1 if tired < 5;tire 1 if step > 1;wait if there and hour > 30");
        book.hours(2);
        book.image();
        book.seed(99);
        book.wind(-2);
        book.goal(0, 3);
        book.edition(-1);
        book.error(4, 2);
        book.hours(3);
        book.rest(1);
        Check.tape(book, "wait");
        return book;
    }

    private String ask(String name, int... numbers) {
        String answer = Calls.of(book, name, numbers);
        answers.add(name + java.util.Arrays.toString(numbers) + " answered " + answer);
        return answer;
    }

    private int number(String name, int... numbers) {
        return Integer.parseInt(ask(name, numbers));
    }

    private void now() {
        for (int what = 0; what < 16; what++) {
            ask("count", what);
        }
        for (int i = 0; i < 12; i++) {
            ask("ground", i);
            ask("printed", i);
        }
        int monks = number("count", 0);
        for (int monk = 0; monk < monks; monk++) {
            for (int what = 0; what < 8; what++) {
                ask("monk", monk, what);
            }
        }
        int duties = number("count", 1);
        for (int duty = 0; duty < duties; duty++) {
            for (int what = 0; what < 4; what++) {
                ask("duty", duty, what);
            }
        }
        int rows = Math.min(6, number("count", 14));
        for (int ago = 0; ago < rows; ago++) {
            for (int what = 0; what < 4; what++) {
                ask("log", ago, what);
            }
        }
        seed();
    }

    private void asked() {
        ask("range", 1);
        ask("water", 1);
        ask("way", 0, 11, 2, 3, 5);
        ask("stranded");
        ask("lost");
        ask("trial", 40, 0);
        ask("trial", 40, 1);
        ask("done", 20);
        ask("doomed", 20);
        ask("span", 20, 1);
        ask("odds", 3, 1);
        ask("clash", 0, -1);
    }

    private void seed() {
        int was = number("seed", 0);
        book.seed(was);
    }

    private void shortly() {
        for (int what : new int[] {4, 9, 10, 12, 13, 14, 15}) {
            ask("count", what);
        }
        ask("printed", 4);
        if (number("count", 0) > 1) {
            ask("monk", 0, 0);
            ask("monk", 0, 1);
            ask("monk", 1, 3);
        }
        seed();
    }

    private void tapeLength() {
        int length = number("feed", 0, 0, 0, 0, 0);
        book.end(length - 20);
    }

    /** What is on the tape is read as a law, or at least told where it is none. */
    private void tapeContent() {
        ask("law");
        ask("fault");
        ask("count", 3);
    }
}

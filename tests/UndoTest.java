/** Acts undone, the image, and the counts. */
public final class UndoTest {
    public static void main(String[] args) {
        eachAct();
        twelve();
        forgotten();
        image();
        counts();
        Check.finish();
    }

    private static TideBook book() {
        TideBook book = Check.coast("range 0 to 0;ground 0 19;monk 0 pace 1 goal 9;monk 5 pace 1;duty 5 from 0 to 99;duty 1 from 0 to 99;storm 100");
        Check.rule(book, "tire 1");
        return book;
    }

    /** All that can be asked without changing anything, as one number. */
    private static long all(TideBook book) {
        long sum = 0;
        for (int what = 0; what < 15; what++) {
            sum = 31 * sum + book.count(what);
        }
        for (int monk = 0; monk < book.count(0); monk++) {
            for (int what = 0; what < 8; what++) {
                sum = 31 * sum + book.monk(monk, what);
            }
        }
        for (int duty = 0; duty < book.count(1); duty++) {
            sum = 31 * sum + book.duty(duty, 3);
        }
        for (int tide = 0; tide < 12; tide++) {
            sum = 31 * sum + book.printed(tide) + book.ground(tide);
        }
        for (int ago = 0; ago < book.count(14); ago++) {
            sum = 31 * sum + book.log(ago, 0) + 7 * book.log(ago, 1) + 5 * book.log(ago, 3);
        }
        return 31 * sum + book.trial(30, false);
    }

    private static void act(TideBook book, int which) {
        switch (which) {
            case 0 -> book.goal(0, 3);
            case 1 -> book.rest(1);
            case 2 -> book.error(3, 2);
            case 3 -> book.edition(-2);
            case 4 -> book.wind(1);
            case 5 -> book.anew(0);
            default -> book.hours(17);
        }
    }

    private static void eachAct() {
        Check.promise(49);
        for (int which = 0; which < 7; which++) {
            TideBook one = book();
            one.hours(3);
            long before = all(one);
            act(one, which);
            Check.yes("act " + which + " changes something", before != all(one));
            Check.same("one more act", 2, one.count(15));
            Check.yes("undo", one.undo());
            Check.same("all is as ahead of act " + which, before, all(one));
            Check.same("acts", 1, one.count(15));
        }
        TideBook book = book();
        Check.no("none at first", book.undo());
        book.hours(3);
        for (int which = 0; which < 7; which++) {
            act(book, which);
        }
        Check.same("eight acts", 8, book.count(15));
        for (int i = 0; i < 8; i++) {
            Check.yes("undo " + i, book.undo());
        }
        Check.no("no more", book.undo());
        Check.same("all is as at first", all(book()), all(book));
        book.goal(0, 9);
        book.rest(0);
        book.anew(0);
        Check.same("acts that change nothing are acts", 3, book.count(15));
        book.seed(99);
        book.undo();
        Check.same("the seed, too, is as ahead of it", 1, book.seed(1));
    }

    private static void twelve() {
        Check.promise(49);
        TideBook book = book();
        for (int i = 0; i < 20; i++) {
            book.wind(i % 11 - 5);
        }
        Check.same("12 are remembered", 12, book.count(15));
        for (int i = 18; i >= 7; i--) {
            Check.yes("undo", book.undo());
            Check.same("wind and 5", i % 11, book.count(9));
        }
        Check.no("the 13th", book.undo());
        Check.same("wind and 5", 7, book.count(9));
        book.edition(1);
        book.edition(2);
        book.undo();
        book.edition(3);
        Check.same("what is undone is not remembered", 2, book.count(15));
        book.undo();
        Check.same("edition and 3", 4, book.count(10));
        book.undo();
        Check.same("edition and 3", 3, book.count(10));
    }

    private static void forgotten() {
        Check.promise(49);
        TideBook book = book();
        book.wind(2);
        Check.wrongCoast(book, "storm x", 6);
        Check.wrongLaw(book, "wade x", 5);
        Check.same("a wrong text forgets nothing", 1, book.count(15));
        Check.tape(book, "storm 1");
        book.undo();
        Check.same("fault is not undone", 5, book.fault());
        Check.same("the tape is not undone", 2, book.coast());
        Check.same("storm", 1, book.count(11));
        book.wind(2);
        Check.tell(book, "");
        Check.same("a text forgets", 0, book.count(15));
        Check.no("undo", book.undo());
        book.wind(3);
        Check.rule(book, "");
        Check.same("a law forgets", 0, book.count(15));
        Check.same("wind and 5", 8, book.count(9));
        for (int i = book.count(2); i < 12; i++) {
            Check.tell(book, "");
        }
        book.wind(4);
        Check.fails("a text too many", UnsupportedOperationException.class, () -> Check.tell(book, ""));
        Check.same("forgets nothing", 1, book.count(15));
        Check.noArgument("hours(0)", () -> book.hours(0));
        Check.same("what throws is no act", 1, book.count(15));
    }

    private static void image() {
        Check.promise(50);
        TideBook book = book();
        book.wind(2);
        book.hours(5);
        book.seed(12);
        long then = all(book);
        book.image();
        Check.same("acts are still remembered", 2, book.count(15));
        Check.promise(51);
        Check.no("no image", new TideBook().back());
        book.hours(50);
        Check.tell(book, "period 4;range 3 to 9;ground 3 3;monk 1 pace 1;duty 1 from 1 to 1;storm 3;edition more 1;error 3 more 1");
        Check.rule(book, "wade 4;wait;tire 3 if there");
        Check.wrongLaw(book, "wade 4 x", 7);
        Check.tape(book, "wait");
        book.wind(3);
        Check.yes("back()", book.back());
        Check.same("all is as then", then, all(book));
        Check.same("the seed, too", 12, book.seed(12));
        Check.same("no acts are remembered", 0, book.count(15));
        Check.no("undo", book.undo());
        Check.same("fault is as it was", 7, book.fault());
        Check.same("the tape is as it was", 1, book.law());
        Check.same("the law is another one now", 1, book.monk(0, 6));
        Check.yes("back() once more", book.back());
        Check.same("all is as then", then, all(book));
        Check.promise(50);
        book.hours(1);
        book.image();
        long later = all(book);
        book.hours(1);
        book.undo();
        Check.yes("undo leaves the image alone", book.back());
        Check.same("the later image is kept", later, all(book));
        TideBook bare = new TideBook();
        bare.image();
        Check.rule(bare, "wait");
        Check.tell(bare, "monk 0 pace 1");
        bare.back();
        Check.same("an image without a law", -1, bare.count(3));
        Check.same("and without monks", 0, bare.count(0));
        Check.same("and texts", 0, bare.count(2));
    }

    private static void counts() {
        Check.promise(52);
        TideBook book = Check.coast("period 8;round 9;range 7 to 16;ground 2 19;monk 0 pace 1;monk 2 pace 1;monk 3 pace 1;duty 2 from 0 to 9;duty 3 from 0 to 0;"
                + "duty 2 from 90 to 99;storm 77", "edition less 1");
        Check.rule(book, "wade 9 if monk > 1;tire 0");
        book.hours(1);
        book.wind(-2);
        book.edition(2);
        // hour 1: range 16, water 16 * 6 / 8 = 12, and a wind of 0 (the first draw is 38, the second 5758)
        int[] want = {3, 3, 2, 2, 1, 8, 9, 7, 16, 3, 5, 77, 0b011, 0b001, 3, 3};
        for (int what = 0; what < want.length; what++) {
            Check.same("count(" + what + ")", want[what], book.count(what));
        }
        Check.same("count(16)", -1, book.count(16));
        Check.same("count(-1)", -1, book.count(-1));
        Check.same("count of the greatest int", -1, book.count(Integer.MAX_VALUE));
    }
}

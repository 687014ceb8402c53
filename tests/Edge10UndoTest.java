import java.util.ArrayList;
import java.util.List;
import java.util.function.Consumer;

/** The edges of promises 46 to 52: the log, the seed, acts undone, the image, and the counts. */
public final class Edge10UndoTest {
    private static final int[] FAR = {Integer.MIN_VALUE, Integer.MAX_VALUE};

    public static void main(String[] args) {
        ledPlaces();
        led();
        ledNone();
        logWhats();
        logAgo();
        logSixty();
        logHour();
        logOrder();
        seed();
        acts();
        eachActUndone();
        hoursOfOneCall();
        twelveRemembered();
        undoneNoMore();
        nothingToUndo();
        butForTapeFaultImage();
        textForgets();
        goingBackForgets();
        imageOfAll();
        oneImage();
        noImage();
        counts();
        anotherCount();
        Check.finish();
    }

    private static void ledPlaces() {
        Check.sentence(46, "IndexOutOfBoundsException: there is no such PLACE, MONK, DUTY.");
        for (boolean hour : new boolean[] {false, true}) {
            Whole.noIndex("led(-1, " + hour + ")", b -> b.led(-1, hour));
            Whole.noIndex("led(12, " + hour + ")", b -> b.led(12, hour));
            for (int far : FAR) {
                Whole.noIndex("led(" + far + ", " + hour + ")", b -> b.led(far, hour));
            }
        }
    }

    private static void led() {
        Check.sentence(46, "LED: how many rows of THE LOG are of a PLACE; the HOUR of the latest (none).");
        TideBook book = Check.coast("range 0 to 0;monk 0 pace 1;monk 11 pace 1;duty 0 from 0 to 9;duty 0 from 3 to 9;duty 11 from 5 to 9");
        book.hours(10);
        Check.same("rows of the first PLACE", 2, book.led(0, false));
        Check.same("the HOUR of the latest", 3, book.led(0, true));
        Check.same("rows of the last PLACE", 1, book.led(11, false));
        Check.same("the HOUR of it", 5, book.led(11, true));
        TideBook wet = Check.coast("monk 4 pace 1;duty 4 from 0 to 0");
        wet.hours(1);
        Check.same("rows of both kinds", 2, wet.led(4, false));
        Check.same("in HOUR 0", 0, wet.led(4, true));
    }

    private static void ledNone() {
        Check.sentence(46, "LED: how many rows (hour false), or the HOUR; NONE.");
        TideBook book = Check.coast("range 0 to 0;monk 5 pace 1;duty 5 from 0 to 9");
        Check.same("no rows", 0, book.led(5, false));
        Check.same("no HOUR", TideBook.NONE, book.led(5, true));
        book.hours(1);
        Check.same("no rows beside", 0, book.led(4, false));
        Check.same("no HOUR beside", TideBook.NONE, book.led(6, true));
        book.undo();
        Check.same("no rows behind undo()", 0, book.led(5, false));
    }

    private static void logWhats() {
        Check.sentence(47, "NoSuchElementException: another what.");
        for (int ago : new int[] {0, -1, 3, 99}) {
            Whole.noElement("log(" + ago + ", -1)", b -> b.log(ago, -1));
            Whole.noElement("log(" + ago + ", 4)", b -> b.log(ago, 4));
        }
        for (int far : FAR) {
            Whole.noElement("log(0, " + far + ")", b -> b.log(0, far));
        }
    }

    private static void logAgo() {
        Check.sentence(47, "THE LOG so many ago (0 the latest) what 0 the HOUR, 1 which, 2 0 or 1, 3 the PLACE; NONE without.");
        TideBook book = Check.coast("range 0 to 0;monk 11 pace 1;monk 0 pace 1;duty 0 from 2 to 2;duty 11 from 4 to 4");
        for (int what = 0; what < 4; what++) {
            Check.same("of none, what " + what, TideBook.NONE, book.log(0, what));
        }
        book.hours(5);
        int[][] rows = {{4, 1, 0, 11}, {2, 0, 0, 0}};
        for (int ago = 0; ago < 2; ago++) {
            for (int what = 0; what < 4; what++) {
                Check.same("log(" + ago + ", " + what + ")", rows[ago][what], book.log(ago, what));
            }
        }
        for (int ago : new int[] {2, -1, 60, Integer.MIN_VALUE, Integer.MAX_VALUE}) {
            for (int what = 0; what < 4; what++) {
                Check.same("log(" + ago + ", " + what + ")", TideBook.NONE, book.log(ago, what));
            }
        }
        // the last MONK, the last PLACE, DROWNED
        TideBook wet = Check.coast("ground 0 19;monk 0 pace 1;monk 0 pace 1;monk 0 pace 1;monk 0 pace 1;monk 0 pace 1;monk 11 pace 1");
        wet.hours(1);
        int[] row = {0, 5, 1, 11};
        for (int what = 0; what < 4; what++) {
            Check.same("of one who DROWNED, what " + what, row[what], wet.log(0, what));
        }
    }

    /** A book in whose log there are so many rows, one for each HOUR from 0 on. */
    private static TideBook rows(int rows) {
        TideBook book = Check.coast("range 0 to 0;monk 2 pace 1;duty 2 from 0 to 999");
        book.hours(1);
        for (int i = 1; i < rows; i++) {
            book.anew(0);
            book.hours(1);
        }
        return book;
    }

    private static void logSixty() {
        Check.sentence(47, "THE LOG: the latest 60 times that a DUTY was KEPT (0) or a MONK DROWNED (1)");
        TideBook just = rows(60);
        Check.same("60 rows", 60, just.count(14));
        Check.same("the first of them", 0, just.log(59, 0));
        Check.same("none behind", TideBook.NONE, just.log(60, 0));
        Check.same("of the PLACE", 60, just.led(2, false));
        TideBook more = rows(61);
        Check.same("61 rows are 60", 60, more.count(14));
        Check.same("the latest of them", 60, more.log(0, 0));
        Check.same("the first of them is gone", 1, more.log(59, 0));
        Check.same("none behind", TideBook.NONE, more.log(60, 0));
        Check.same("of the PLACE", 60, more.led(2, false));
        more.undo();
        Check.same("behind undo() the first is there again", 0, more.log(59, 0));
        Check.same("and the latest is", 59, more.log(0, 0));
        TideBook twice = rows(150);
        Check.same("150 rows are 60", 60, twice.count(14));
        for (int ago = 0; ago < 60; ago++) {
            Check.same("HOUR of " + ago + " ago", 149 - ago, twice.log(ago, 0));
        }
        // a row of another PLACE goes with the oldest
        TideBook other = Check.coast("range 0 to 0;monk 2 pace 1;monk 7 pace 1;duty 2 from 0 to 999;duty 7 from 0 to 0");
        other.hours(1);
        for (int i = 1; i < 60; i++) {
            other.anew(0);
            other.hours(1);
        }
        Check.same("61 rows: the first is gone, the second is not", 1, other.led(7, false));
        other.anew(0);
        other.hours(1);
        Check.same("62 rows: the second is gone", 0, other.led(7, false));
        Check.same("its HOUR, too", TideBook.NONE, other.led(7, true));
    }

    private static void logHour() {
        Check.sentence(47, "HOUR (as it was ahead of (d)), which, 0 or 1, the PLACE.");
        TideBook book = Check.coast("range 12 to 12;ground 1 7;monk 1 pace 1;duty 1 from 11 to 11");
        book.hours(12);
        Check.same("DROWNED by HOUR 12", 1, book.log(0, 2));
        Check.same("in HOUR", 11, book.log(0, 0));
        Check.same("KEPT", 0, book.log(1, 2));
        Check.same("in HOUR", 11, book.log(1, 0));
        Check.same("HOUR now", 12, book.count(4));
    }

    private static void logOrder() {
        Check.sentence(47, "(c) Each DUTY that is not KEPT, by numbers");
        TideBook book = Check.coast("range 12 to 12;monk 5 pace 1;monk 4 pace 1;duty 4 from 0 to 9;duty 5 from 0 to 9;duty 4 from 0 to 0");
        book.hours(1);
        // DUTIES 0, 1, 2, then MONKS 0, 1
        int[][] rows = {{1, 1, 4}, {0, 1, 5}, {2, 0, 4}, {1, 0, 5}, {0, 0, 4}};
        Check.same("rows", 5, book.count(14));
        for (int ago = 0; ago < 5; ago++) {
            for (int what = 1; what < 4; what++) {
                Check.same("log(" + ago + ", " + what + ")", rows[ago][what - 1], book.log(ago, what));
            }
        }
    }

    private static void seed() {
        Check.sentence(48, "SEED: what it was.");
        TideBook book = new TideBook();
        Check.same("at first", 1, book.seed(Integer.MAX_VALUE));
        Check.same("the greatest", Integer.MAX_VALUE, book.seed(Integer.MIN_VALUE));
        Check.same("the least", Integer.MIN_VALUE, book.seed(0));
        Check.same("0", 0, book.seed(-1));
        Check.same("- 1", -1, book.seed(1));
        Check.same("no act", 0, book.count(15));
    }

    private static List<Consumer<TideBook>> allActs() {
        List<Consumer<TideBook>> acts = new ArrayList<>();
        acts.add(b -> b.goal(0, 9));
        acts.add(b -> b.rest(0));
        acts.add(b -> b.error(3, 3));
        acts.add(b -> b.edition(2));
        acts.add(b -> b.wind(5));
        acts.add(b -> b.anew(0));
        acts.add(b -> b.hours(7));
        return acts;
    }

    private static void acts() {
        Check.sentence(49, "ACTS: a GOAL is told; a MONK rests (TIRED 0); an ERROR is told; EDITION is told; WIND is told; a DUTY is told anew as not KEPT; HOURS.");
        int which = 0;
        for (Consumer<TideBook> act : allActs()) {
            TideBook book = Whole.rich();
            int before = book.count(15);
            act.accept(book);
            Check.same("act " + which + " is one", before + 1, book.count(15));
            which++;
        }
        // what changes nothing is told all the same
        TideBook same = Check.coast("range 0 to 0;monk 3 pace 1;duty 5 from 0 to 9");
        same.goal(0, 3);
        same.rest(0);
        same.error(0, 0);
        same.edition(0);
        same.wind(0);
        same.anew(0);
        Check.same("six that change nothing", 6, same.count(15));
        TideBook none = Whole.rich();
        int before = none.count(15);
        none.seed(5);
        none.image();
        none.trial(5, true);
        none.ahead(0, 5);
        none.feed(1, 2, 3, 4, 5);
        none.end(0);
        none.came(true);
        none.most(0, 0);
        none.fetch(0);
        Check.same("all else is none", before, none.count(15));
    }

    private static void eachActUndone() {
        Check.sentence(49, "UNDONE: the latest ACT not undone yet");
        int which = 0;
        for (Consumer<TideBook> act : allActs()) {
            TideBook book = Whole.rich();
            act.accept(book);
            Check.yes("undo() of act " + which, book.undo());
            Whole.alike("behind undo() of act " + which, Whole.rich(), book);
            which++;
        }
        // the seed that was told since is as ahead of the act, too
        TideBook seed = new TideBook();
        seed.seed(11);
        seed.wind(1);
        seed.seed(22);
        seed.undo();
        Check.same("SEED as ahead of it", 11, seed.seed(0));
    }

    private static void hoursOfOneCall() {
        Check.sentence(49, "HOURS of one call are one");
        TideBook book = Whole.rich();
        book.hours(100);
        Check.yes("undo()", book.undo());
        Whole.alike("100 HOURS", Whole.rich(), book);
        TideBook two = new TideBook();
        two.hours(1);
        two.hours(2);
        two.undo();
        Check.same("of two calls the latest", 1, two.count(4));
        two.undo();
        Check.same("and the other one", 0, two.count(4));
    }

    private static void twelveRemembered() {
        Check.sentence(49, "(12 are remembered; HOURS of one call are one)");
        for (int acts : new int[] {11, 12, 13, 14, 30}) {
            TideBook book = new TideBook();
            for (int i = 1; i <= acts; i++) {
                book.hours(1);
                Check.same("remembered", Math.min(12, i), book.count(15));
            }
            int undone = Math.min(12, acts);
            for (int i = 1; i <= undone; i++) {
                Check.yes("undo() " + i + " of " + acts, book.undo());
                Check.same("HOUR", acts - i, book.count(4));
                Check.same("remembered", undone - i, book.count(15));
            }
            Check.no("one more", book.undo());
            Check.same("HOUR", acts - undone, book.count(4));
            book.hours(1);
            Check.same("and on", 1, book.count(15));
        }
    }

    private static void undoneNoMore() {
        Check.sentence(49, "the latest ACT not undone yet");
        TideBook book = new TideBook();
        book.edition(1);
        book.edition(2);
        book.edition(3);
        book.undo();
        book.undo();
        Check.same("two undone: EDITION and 3", 4, book.count(10));
        book.edition(-1);
        Check.same("remembered", 2, book.count(15));
        book.undo();
        Check.same("EDITION and 3", 4, book.count(10));
        book.undo();
        Check.same("EDITION and 3", 3, book.count(10));
        Check.no("none left", book.undo());
    }

    private static void nothingToUndo() {
        Check.sentence(49, "UNDONE: whether there was one.");
        Check.no("of a new one", new TideBook().undo());
        TideBook book = Whole.rich();
        int acts = book.count(15);
        for (int i = 0; i < acts; i++) {
            Check.yes("undo()", book.undo());
        }
        Check.no("no more", book.undo());
        TideBook other = Whole.rich();
        for (int i = 0; i < acts; i++) {
            other.undo();
        }
        Whole.alike("undo() of none changes nothing", other, book);
    }

    private static void butForTapeFaultImage() {
        Check.sentence(49, "all is as ahead of it (but for the TAPE, fault(), THE IMAGE).");
        TideBook book = Check.coast("storm 5");
        book.wind(1);
        Check.wrongCoast(book, "storm", 5);
        Check.tape(book, "wait");
        book.image();
        book.undo();
        Check.same("fault()", 5, book.fault());
        Check.same("WIND and 5", 5, book.count(9));
        Check.yes("THE IMAGE is still kept", book.back());
        Check.same("WIND and 5 in it", 6, book.count(9));
        Check.yes("the TAPE has 4 bytes", book.end(4));
        Check.same("it is a law", 1, book.law());
        TideBook used = new TideBook();
        Check.tape(used, "wait");
        used.wind(1);
        used.end(0);
        used.undo();
        Check.no("a TAPE that was cut is not as ahead of it", used.end(1));
    }

    private static void textForgets() {
        Check.sentence(49, "A text, going back: none are remembered.");
        for (String text : new String[] {"storm 3", "", "   "}) {
            TideBook book = Whole.rich();
            Check.tell(book, text);
            Check.same("acts behind a text of THE COAST", 0, book.count(15));
            Check.no("undo()", book.undo());
            Check.same("HOUR as it was", 5, book.count(4));
        }
        for (String text : new String[] {"wait", "", "   "}) {
            TideBook book = Whole.rich();
            Check.rule(book, text);
            Check.same("acts behind THE LAW", 0, book.count(15));
            Check.no("undo()", book.undo());
            Check.same("HOUR as it was", 5, book.count(4));
        }
        TideBook wrong = Whole.rich();
        Check.wrongCoast(wrong, "storm", 5);
        Check.wrongLaw(wrong, "wade", 4);
        Check.same("acts behind wrong texts", 7, wrong.count(15));
        Check.yes("undo()", wrong.undo());
    }

    private static void goingBackForgets() {
        Check.sentence(51, "A text, going back: none are remembered.");
        TideBook book = Whole.rich();
        Check.same("acts", 7, book.count(15));
        book.back();
        Check.same("acts behind back()", 0, book.count(15));
        Check.no("undo()", book.undo());
        Check.same("HOUR of THE IMAGE", 2, book.count(4));
        TideBook none = new TideBook();
        none.wind(2);
        Check.no("back() without one", none.back());
        Check.same("acts behind it", 1, none.count(15));
    }

    private static void imageOfAll() {
        Check.sentence(50, "THE IMAGE (one) of all may be kept, and gone back to (but for the TAPE, fault() and THE IMAGE itself).");
        // told anew from the same texts and acts, one book keeps an image and goes on, and back
        TideBook book = Whole.rich();
        book.image();
        book.hours(60);
        book.seed(4);
        Check.tell(book, "period 4;round 9;range 1 to 2;ground 1 3;monk 1 pace 1;duty 1 from 1 to 2;storm 9;edition less 3;error 1 more 3");
        Check.rule(book, "wade 9;tire 9");
        book.hours(3);
        Check.wrongLaw(book, "wade 9;x", 7);
        Check.tape(book, "wait");
        Check.yes("back()", book.back());
        Check.same("fault() is as it was", 7, book.fault());
        TideBook other = Whole.rich();
        other.image();
        other.back();
        Whole.alikeButFault("behind back()", other, book);
        TideBook law = Check.coast("monk 3 pace 1");
        Check.rule(law, "wade 3;tire 2");
        law.image();
        Check.rule(law, "wait;wade 5;wade 6");
        law.back();
        Check.same("LINES of its law", 2, law.count(3));
        Check.same("WADES by its law", 4, law.monk(0, 5));
        Check.same("WAITS by its law", 0, law.monk(0, 6));
        Check.same("TIRES by its law", 2, law.monk(0, 7));
        // of a new one, without a law
        TideBook bare = new TideBook();
        bare.image();
        Check.tell(bare, "monk 1 pace 1");
        Check.rule(bare, "wait");
        bare.hours(3);
        bare.back();
        Check.same("MONKS", 0, bare.count(0));
        Check.same("texts", 0, bare.count(2));
        Check.same("LINES", TideBook.NONE, bare.count(3));
        Check.same("HOUR", 0, bare.count(4));
        // the acts ahead of it can still be undone, until one goes back
        TideBook acts = new TideBook();
        acts.wind(3);
        acts.image();
        Check.same("acts behind image()", 1, acts.count(15));
        Check.yes("undo()", acts.undo());
        Check.same("WIND and 5", 5, acts.count(9));
        acts.back();
        Check.same("WIND and 5 of THE IMAGE", 8, acts.count(9));
    }

    private static void oneImage() {
        Check.sentence(50, "THE IMAGE is kept.");
        TideBook book = new TideBook();
        book.wind(1);
        book.image();
        book.wind(2);
        book.image();
        book.wind(3);
        Check.yes("back()", book.back());
        Check.same("the later one", 7, book.count(9));
        book.wind(4);
        Check.yes("back() again", book.back());
        Check.same("the same one", 7, book.count(9));
        Check.tell(book, "storm 4");
        Check.rule(book, "wait");
        Check.yes("back() behind texts", book.back());
        Check.same("STORM", 0, book.count(11));
        Check.same("LINES", TideBook.NONE, book.count(3));
        // what happens behind back() does not change it
        book.hours(5);
        book.undo();
        book.wind(5);
        book.back();
        Check.same("the same one still", 7, book.count(9));
    }

    private static void noImage() {
        Check.sentence(51, "false, and nothing happens, if none was kept.");
        Check.no("of a new one", new TideBook().back());
        TideBook book = withoutImage();
        Check.no("back()", book.back());
        Whole.alike("back() without THE IMAGE", withoutImage(), book);
    }

    private static TideBook withoutImage() {
        TideBook book = Check.coast("monk 3 pace 1 goal 6;duty 3 from 0 to 9;storm 40;range 2 to 3");
        Check.rule(book, "tire 1");
        book.hours(3);
        book.wind(3);
        book.seed(8);
        Check.tape(book, "wait");
        return book;
    }

    private static void counts() {
        Check.sentence(52, "0 MONKS, 1 DUTIES, 2 texts of THE COAST, 3 LINES of THE LAW (NONE without one), 4 HOUR, 5 PERIOD, 6 ROUND, 7 NEAP, 8 SPRING, 9 WIND and 5, 10 EDITION and 3, 11 STORM, 12 DUTIES KEPT, as bits, 13 MONKS DROWNED, as bits, 14 rows of THE LOG, 15 acts that can be UNDONE.");
        TideBook book = Check.coast("range 2 to 9;period 24;round 28;ground 1 19;monk 0 pace 1;monk 0 pace 1;monk 1 pace 1;duty 1 from 0 to 9;duty 0 from 1 to 9;duty 1 from 0 to 0", "storm 0", "storm 0");
        int[] first = {3, 3, 3, -1, 0, 24, 28, 2, 9, 5, 3, 0, 0, 0, 0, 0};
        counts("at first", book, first);
        Check.rule(book, "");
        Check.same("LINES of none", 0, book.count(3));
        Check.rule(book, "wade 9 if monk < 1");
        book.hours(1);
        book.wind(-5);
        book.edition(-3);
        // HOUR 1 has WATER 8: one who WADES 10 lives, one who WADES 1 does not
        int[] then = {3, 3, 3, 1, 1, 24, 28, 2, 9, 0, 0, 0, 0b101, 0b010, 3, 3};
        counts("then", book, then);
        book.wind(5);
        book.edition(3);
        Check.same("WIND and 5", 10, book.count(9));
        Check.same("EDITION and 3", 6, book.count(10));
        TideBook six = Check.coast("monk 0 pace 1" + ";monk 0 pace 1".repeat(5) + ";duty 0 from 0 to 0".repeat(6));
        six.hours(1);
        Check.same("six KEPT", 0b111111, six.count(12));
        Check.same("six DROWNED", 0b111111, six.count(13));
        Check.same("twelve rows", 12, six.count(14));
    }

    private static void counts(String when, TideBook book, int[] want) {
        for (int what = 0; what < want.length; what++) {
            Check.same("count(" + what + ") " + when, want[what], book.count(what));
        }
    }

    private static void anotherCount() {
        Check.sentence(52, "NONE for another what.");
        TideBook book = Whole.rich();
        Check.same("count(-1)", TideBook.NONE, book.count(-1));
        Check.same("count(16)", TideBook.NONE, book.count(16));
        for (int far : FAR) {
            Check.same("count(" + far + ")", TideBook.NONE, book.count(far));
        }
    }
}

/** The edges of promises 28 to 30: who fetches whom, who is sent where, the most duties. */
public final class Edge7ErrandsTest {
    private static final int[] FAR = {Integer.MIN_VALUE, Integer.MAX_VALUE};
    private static final String DRY = "range 0 to 0";

    public static void main(String[] args) {
        noSuchMonk();
        fetchFewest();
        fetchByItsOwnPace();
        fetchByDepth1();
        fetchNone();
        sendUsesTheTape();
        sendNoSuchMonk();
        sendTapeIsNotThat();
        sendNothing();
        sendFewestTogether();
        sendFirstSuchWay();
        sendDrowned();
        sendNone();
        sendAll();
        mostNoSuchMonk();
        mostHowMany();
        mostKth();
        mostEachOnce();
        mostInTime();
        mostWaits();
        mostFirstRow();
        mostOnTheWay();
        mostDrowned();
        sixtyHours();
        Check.finish();
    }

    private static void noSuchMonk() {
        Check.sentence(28, "IndexOutOfBoundsException: there is no such PLACE, MONK, DUTY.");
        Whole.noIndex("fetch(-1)", b -> b.fetch(-1));
        Whole.noIndex("fetch(3)", b -> b.fetch(3));
        for (int far : FAR) {
            Whole.noIndex("fetch(" + far + ")", b -> b.fetch(far));
        }
    }

    private static void fetchFewest() {
        Check.sentence(28, "whose WAY to its PLACE by its own PACE and depth 1 from now on takes the fewest HOURS (of several the least; none)");
        TideBook book = Check.coast(DRY + ";monk 5 pace 1;monk 1 pace 1;monk 8 pace 1;monk 2 pace 1;monk 7 pace 1;monk 3 pace 1");
        // to 5: 4, 3, 3, 2, 2
        Check.same("of two the least", 4, book.fetch(0));
        // to 1 (monk 1): from 5, 8, 2, 7, 3
        Check.same("the fewest", 3, book.fetch(1));
        // to 3 (monk 5): from 5, 1, 8, 2, 7
        Check.same("the last one is fetched", 3, book.fetch(5));
        // to 8 (monk 2): from 5, 1, 2, 7, 3
        Check.same("the fewest", 4, book.fetch(2));
        TideBook ends = Check.coast(DRY + ";monk 0 pace 1;monk 11 pace 1");
        Check.same("11 HOURS", 1, ends.fetch(0));
        Check.same("11 HOURS", 0, ends.fetch(1));
        TideBook last = Check.coast(DRY + ";monk 0 pace 1;monk 9 pace 1;monk 9 pace 1;monk 9 pace 1;monk 9 pace 1;monk 8 pace 1");
        Check.same("the last one fetches", 5, last.fetch(0));
        TideBook same = Check.coast(DRY + ";monk 4 pace 1;monk 4 pace 1;monk 4 pace 1");
        Check.same("where it is, in no HOURS", 1, same.fetch(0));
        Check.same("where it is, in no HOURS", 0, same.fetch(1));
        Check.same("where it is, in no HOURS", 0, same.fetch(2));
    }

    private static void fetchByItsOwnPace() {
        Check.sentence(28, "by its own PACE and depth 1 from now on");
        TideBook book = Check.coast(DRY + ";monk 0 pace 4;monk 4 pace 1;monk 8 pace 4");
        Check.same("4 HOURS by 1, 2 HOURS by 4", 2, book.fetch(0));
        Check.same("one HOUR by 4 each", 0, book.fetch(1));
        // WATER 2, 0, 2 in HOURS 5 to 7: by 1 one never gets over a flat, by 4 over two at once, and over one more a TIDE later
        TideBook flats = Check.coast("range 12 to 12;ground 0 19;ground 2 19;ground 5 19;monk 0 pace 1;monk 2 pace 1;monk 5 pace 4");
        Check.same("by 4", 2, flats.fetch(0));
        Check.same("by 4", 2, flats.fetch(1));
        Check.same("by 1", TideBook.NONE, flats.fetch(2));
    }

    private static void fetchByDepth1() {
        Check.sentence(28, "depth 1 from now on");
        TideBook book = Check.coast("range 0 to 0;monk 0 pace 1;monk 1 pace 1");
        Check.same("DEPTH 0", 1, book.fetch(0));
        book.wind(1);
        Check.same("DEPTH 1", 1, book.fetch(0));
        book.wind(2);
        Check.same("DEPTH 2", TideBook.NONE, book.fetch(0));
        Check.rule(book, "wade 9");
        Check.same("DEPTH 2, whatever one WADES", TideBook.NONE, book.fetch(0));
    }

    private static void fetchNone() {
        Check.sentence(28, "FETCH; NONE (also, if the MONK is DROWNED).");
        Check.same("alone", TideBook.NONE, Check.coast(DRY + ";monk 4 pace 1").fetch(0));
        TideBook book = Check.coast("range 12 to 12;ground 0 19;ground 1 0;ground 2 19;monk 0 pace 2;monk 1 pace 2;monk 2 pace 2");
        book.hours(1);
        Check.same("DROWNED", 0b010, book.count(13));
        Check.same("one who is DROWNED", TideBook.NONE, book.fetch(1));
        Check.same("not by one who is DROWNED", 2, book.fetch(0));
        Check.same("nor by it", 0, book.fetch(2));
        TideBook two = Check.coast("range 12 to 12;ground 0 19;monk 0 pace 2;monk 1 pace 2");
        two.hours(1);
        Check.same("the other one is DROWNED", TideBook.NONE, two.fetch(0));
        Check.same("it is DROWNED itself", TideBook.NONE, two.fetch(1));
    }

    private static int send(TideBook book, int monk, int... places) {
        Check.tape(book, places);
        return book.send(monk);
    }

    private static void sendUsesTheTape() {
        Check.sentence(29, "Uses the TAPE up: SEND: how many (monk NONE), or to which one goes");
        TideBook book = Check.coast(DRY + ";monk 3 pace 1;monk 5 pace 1");
        Check.same("how many", 2, send(book, TideBook.NONE, 6, 4));
        Check.no("a byte is left", book.end(1));
        Check.same("to which", 1, send(book, 0, 6, 4));
        Check.no("a byte is left", book.end(1));
        Check.same("to which", 0, send(book, 1, 6, 4));
        Check.same("no act", 0, book.count(15));
        Check.same("no one has gone", 3, book.monk(0, 0));
    }

    private static void sendNoSuchMonk() {
        Check.sentence(29, "IndexOutOfBoundsException: there is no such MONK");
        for (int monk : new int[] {-2, 3, 6, Integer.MIN_VALUE, Integer.MAX_VALUE}) {
            Whole.refusedTape("send(" + monk + ")", IndexOutOfBoundsException.class, Whole::rich, b -> send(b, monk, 0, 1));
        }
        Check.sentence(29, "Of several exceptions the one told first is thrown");
        Whole.refusedTape("send(3) of a wrong TAPE", IndexOutOfBoundsException.class, Whole::rich, b -> send(b, 3, 99));
        Whole.refusedTape("send(-2) of no TAPE", IndexOutOfBoundsException.class, Whole::rich, b -> send(b, -2));
    }

    private static void sendTapeIsNotThat() {
        Check.sentence(29, "IllegalArgumentException: the TAPE is not that.");
        // of three MONKS one is DROWNED: two bytes
        int[][] wrong = {{}, {0}, {0, 1, 2}, {0, 12}, {12, 0}, {0, 255}, {128, 0}, new int[400]};
        for (int[] bytes : wrong) {
            for (int monk : new int[] {TideBook.NONE, 0, 2}) {
                Whole.refusedTape("send(" + monk + ") of " + java.util.Arrays.toString(bytes), IllegalArgumentException.class, Whole::rich,
                        b -> send(b, monk, bytes));
            }
        }
        Check.same("two right ones", 0, send(Whole.rich(), TideBook.NONE, 3, 4));
        Check.noArgument("of a new one a byte is too many", () -> send(new TideBook(), TideBook.NONE, 0));
    }

    private static void sendNothing() {
        Check.sentence(29, "all MONKS not DROWNED and as many told PLACES (the TAPE: a byte for each of them, 0 to 11)");
        Check.same("no MONKS, no bytes", 0, new TideBook().send(TideBook.NONE));
        TideBook wet = Check.coast("monk 4 pace 1;monk 5 pace 1");
        wet.hours(1);
        Check.same("all DROWNED", 0b11, wet.count(13));
        Check.same("all DROWNED, no bytes", 0, send(wet, TideBook.NONE));
        Check.same("one of them", TideBook.NONE, send(wet, 1));
        Check.noArgument("all DROWNED, a byte", () -> send(wet, TideBook.NONE, 4));
        TideBook one = Check.coast(DRY + ";monk 4 pace 1");
        Check.same("the first PLACE", 4, send(one, TideBook.NONE, 0));
        Check.same("the last PLACE", 7, send(one, TideBook.NONE, 11));
        Check.same("where it is", 0, send(one, TideBook.NONE, 4));
        Check.same("to which", 0, send(one, 0, 11));
    }

    private static void sendFewestTogether() {
        Check.sentence(29, "each to one of these, so that their WAYS (as for FETCH) take the fewest HOURS together: how many");
        TideBook book = Check.coast(DRY + ";monk 0 pace 1;monk 3 pace 1;monk 6 pace 4");
        // to 3, 6, 11: 3 6 11; 0 3 8; 1 0 2 HOURS: 3 and 3 and 2, 6 and 0 and 2, ..
        Check.same("together", 8, send(book, TideBook.NONE, 3, 6, 11));
        // not each its nearest: to 4 and 4 and 0
        Check.same("one place twice", 2, send(book, TideBook.NONE, 4, 4, 0));
        TideBook greedy = Check.coast(DRY + ";monk 5 pace 1;monk 4 pace 1");
        // the first one has 1 HOUR to 6 and 4 to 1, the other one 2 and 3
        Check.same("together", 4, send(greedy, TideBook.NONE, 6, 1));
        // by its own PACE
        TideBook paces = Check.coast(DRY + ";monk 0 pace 4;monk 0 pace 1");
        Check.same("the fast one goes far", 3 + 1, send(paces, TideBook.NONE, 1, 11));
        Check.same("to which", 1, send(paces, 0, 1, 11));
        Check.same("to which", 0, send(paces, 1, 1, 11));
        // by depth 1
        book.wind(1);
        Check.same("DEPTH 1", 8, send(book, TideBook.NONE, 3, 6, 11));
        book.wind(2);
        Check.same("DEPTH 2", TideBook.NONE, send(book, TideBook.NONE, 3, 6, 11));
        Check.same("DEPTH 2, but all stay", 0, send(book, TideBook.NONE, 6, 0, 3));
    }

    private static void sendFirstSuchWay() {
        Check.sentence(29, "to which of them (its number on the TAPE) a MONK goes in the first such way (the least that can be for the first MONK, then the next, ..)");
        TideBook book = Check.coast(DRY + ";monk 2 pace 1;monk 2 pace 1;monk 2 pace 1");
        int[] all = {9, 5, 7};
        for (int monk = 0; monk < 3; monk++) {
            Check.same("all alike: " + monk, monk, send(book, monk, all));
        }
        // the first one takes 5 or 3 HOURS, the other one 4 or 2, as they like: 7 either way
        TideBook two = Check.coast(DRY + ";monk 0 pace 1;monk 1 pace 1");
        Check.same("either way", 7, send(two, TideBook.NONE, 5, 3));
        Check.same("the least for the first", 0, send(two, 0, 5, 3));
        Check.same("what is left for the next", 1, send(two, 1, 5, 3));
        // 0 for the first one would not be the fewest
        TideBook cross = Check.coast(DRY + ";monk 9 pace 1;monk 1 pace 1");
        Check.same("the least that can be", 1, send(cross, 0, 1, 9));
        Check.same("the least that can be", 0, send(cross, 1, 1, 9));
        // the same PLACE twice: its first number for the first one
        TideBook twice = Check.coast(DRY + ";monk 0 pace 1;monk 5 pace 1;monk 5 pace 1");
        Check.same("the first one", 1, send(twice, 0, 5, 0, 5));
        Check.same("the next one", 0, send(twice, 1, 5, 0, 5));
        Check.same("the last one", 2, send(twice, 2, 5, 0, 5));
    }

    private static TideBook oneDrowned() {
        TideBook book = Check.coast("range 12 to 12;ground 0 19;ground 1 0;ground 2 19;monk 0 pace 2;monk 1 pace 2;monk 2 pace 2");
        book.hours(1);
        return book;
    }

    private static void sendDrowned() {
        Check.sentence(29, "NONE (also of one who is DROWNED).");
        TideBook book = oneDrowned();
        Check.same("DROWNED", 0b010, book.count(13));
        Check.same("one who is DROWNED", TideBook.NONE, send(book, 1, 2, 0));
        Check.same("how many for the others", 0, send(book, TideBook.NONE, 2, 0));
        Check.same("the one before it", 1, send(book, 0, 2, 0));
        Check.same("the one behind it", 0, send(book, 2, 2, 0));
    }

    private static void sendNone() {
        Check.sentence(29, "none, if there is no such way.");
        // DEPTH 2 everywhere but at 0 and 1: one PLACE cannot be come to by anybody
        TideBook book = Check.coast("range 0 to 0;ground 0 5;ground 1 5;monk 0 pace 1;monk 1 pace 1");
        book.wind(2);
        Check.same("both there", 2, send(book, TideBook.NONE, 0, 0) + send(book, TideBook.NONE, 1, 1));
        Check.same("how many", TideBook.NONE, send(book, TideBook.NONE, 0, 5));
        Check.same("one who could go", TideBook.NONE, send(book, 0, 0, 5));
        Check.same("one who could not", TideBook.NONE, send(book, 1, 0, 5));
        // each PLACE can be come to, but by one and the same MONK alone
        TideBook both = Check.coast("range 0 to 0;ground 0 5;ground 5 5;monk 0 pace 1;monk 5 pace 1");
        both.wind(2);
        Check.same("two places of one MONK", TideBook.NONE, send(both, TideBook.NONE, 0, 0));
        Check.same("each its own", 0, send(both, TideBook.NONE, 5, 0));
    }

    private static void sendAll() {
        Check.sentence(29, "all MONKS not DROWNED and as many told PLACES");
        TideBook six = Check.coast(DRY + ";monk 11 pace 1;monk 9 pace 1;monk 7 pace 1;monk 5 pace 1;monk 3 pace 1;monk 1 pace 1");
        int[] places = {0, 2, 4, 6, 8, 10};
        Check.same("six", 6, send(six, TideBook.NONE, places));
        for (int monk = 0; monk < 6; monk++) {
            Check.same("of six " + monk, 5 - monk, send(six, monk, places));
        }
        Check.noArgument("five", () -> send(six, TideBook.NONE, 0, 2, 4, 6, 8));
        Check.noArgument("seven", () -> send(six, TideBook.NONE, 0, 2, 4, 6, 8, 10, 11));
        // fewer MONKS behind more: an answer has nothing to do with the one before
        TideBook fewer = Check.coast(DRY + ";monk 0 pace 1");
        fewer.image();
        Check.tell(fewer, "monk 5 pace 1;monk 9 pace 1");
        Check.same("three", 8, send(fewer, TideBook.NONE, 11, 11, 0));
        fewer.back();
        Check.same("one", 3, send(fewer, TideBook.NONE, 3));
        Check.tell(fewer, "monk 5 pace 1");
        Check.same("two", 4, send(fewer, TideBook.NONE, 3, 2));
        // the longest ways together: 6 times 11 HOURS
        TideBook far = Check.coast(DRY + ";monk 0 pace 1;monk 0 pace 1;monk 0 pace 1;monk 0 pace 1;monk 0 pace 1;monk 0 pace 1");
        Check.same("66 HOURS", 66, send(far, TideBook.NONE, 11, 11, 11, 11, 11, 11));
    }

    private static void mostNoSuchMonk() {
        Check.sentence(30, "IndexOutOfBoundsException: there is no such PLACE, MONK, DUTY.");
        Whole.noIndex("most(-1, -1)", b -> b.most(-1, -1));
        Whole.noIndex("most(3, 0)", b -> b.most(3, 0));
        for (int far : FAR) {
            Whole.noIndex("most(" + far + ", 0)", b -> b.most(far, 0));
        }
    }

    /** The row that is due, and nothing ahead of its first DUTY or behind its last. */
    private static void row(TideBook book, int monk, int... duties) {
        Check.same("most(" + monk + ", NONE)", duties.length, book.most(monk, TideBook.NONE));
        for (int k = 0; k < duties.length; k++) {
            Check.same("most(" + monk + ", " + k + ")", duties[k], book.most(monk, k));
        }
        for (int k : new int[] {duties.length, 6, 7, -2, Integer.MIN_VALUE, Integer.MAX_VALUE}) {
            Check.same("most(" + monk + ", " + k + ")", TideBook.NONE, book.most(monk, k));
        }
    }

    private static void mostHowMany() {
        Check.sentence(30, "MOST: how many (k NONE; 0 of one who is DROWNED), or the k-th DUTY; NONE.");
        row(Check.coast(DRY + ";monk 5 pace 1"), 0);
        row(Check.coast(DRY + ";monk 5 pace 1;duty 5 from 0 to 0"), 0, 0);
        row(Check.coast(DRY + ";monk 5 pace 1;duty 6 from 0 to 0"), 0);
        Whole.leavesAll("nothing stays of it", Whole::rich, b -> b.most(0, 0));
    }

    private static void mostKth() {
        Check.sentence(30, "of these rows the first one (by the first unlike DUTY, the lesser): the k-th DUTY of it; none.");
        row(Check.coast(DRY + ";monk 5 pace 4" + ";duty 5 from 0 to 99".repeat(6)), 0, 0, 1, 2, 3, 4, 5);
        row(Check.coast(DRY + ";monk 0 pace 1;duty 11 from 0 to 99;duty 0 from 0 to 99;duty 5 from 0 to 99"), 0, 0, 1, 2);
    }

    private static void mostEachOnce() {
        Check.sentence(30, "rows of DUTIES not KEPT, each once, that it can keep one behind another from now on");
        TideBook book = Check.coast(DRY + ";monk 5 pace 1;duty 5 from 0 to 999;duty 5 from 0 to 0;duty 5 from 2 to 2");
        row(book, 0, 0, 1, 2);
        book.hours(1);
        Check.same("KEPT", 0b011, book.count(12));
        row(book, 0, 2);
        book.anew(0);
        row(book, 0, 0, 2);
        book.anew(1);
        row(book, 0, 0, 2);
        book.hours(2);
        row(book, 0);
    }

    private static void mostInTime() {
        Check.sentence(30, "keeps it in the HOUR in which it comes, or in the first one of the DUTY, if that is later (it must not be over by then)");
        row(Check.coast(DRY + ";monk 0 pace 1;duty 3 from 0 to 3"), 0, 0);
        row(Check.coast(DRY + ";monk 0 pace 1;duty 3 from 0 to 2"), 0);
        row(Check.coast(DRY + ";monk 0 pace 1;duty 3 from 3 to 3"), 0, 0);
        row(Check.coast(DRY + ";monk 0 pace 1;duty 3 from 4 to 4"), 0, 0);
        row(Check.coast(DRY + ";monk 0 pace 1;duty 3 from 999 to 999"), 0, 0);
        row(Check.coast(DRY + ";monk 0 pace 2;duty 3 from 0 to 2"), 0, 0);
        row(Check.coast(DRY + ";monk 0 pace 2;duty 3 from 0 to 1"), 0);
        TideBook now = Check.coast(DRY + ";monk 0 pace 1;duty 0 from 1 to 5;duty 1 from 1 to 6");
        now.hours(1);
        now.anew(0);
        now.hours(4);
        now.anew(0);
        Check.same("HOUR", 5, now.count(4));
        row(now, 0, 0, 1);
        now.goal(0, 0);
        now.hours(1);
        now.anew(0);
        Check.same("HOUR", 6, now.count(4));
        row(now, 0);
    }

    private static void mostWaits() {
        Check.sentence(30, "it goes on from there from that HOUR on: the most DUTIES in a row: how many");
        // one keeps DUTY 0 in HOUR 20, and comes to DUTY 1 in HOUR 21
        row(Check.coast(DRY + ";monk 5 pace 1;duty 5 from 20 to 30;duty 6 from 20 to 21"), 0, 0, 1);
        row(Check.coast(DRY + ";monk 5 pace 1;duty 5 from 21 to 30;duty 6 from 20 to 21"), 0, 1, 0);
        row(Check.coast(DRY + ";monk 5 pace 1;duty 5 from 21 to 21;duty 6 from 21 to 21"), 0, 0);
        row(Check.coast(DRY + ";monk 5 pace 1;duty 5 from 20 to 20;duty 5 from 20 to 20"), 0, 0, 1);
        // the least first DUTY leaves less
        row(Check.coast(DRY + ";monk 5 pace 1;duty 0 from 5 to 5;duty 6 from 0 to 1;duty 7 from 0 to 2;duty 8 from 0 to 3"), 0, 1, 2, 3);
    }

    private static void mostFirstRow() {
        Check.sentence(30, "(by the first unlike DUTY, the lesser)");
        // one of 0 and 2, then 1; or 1 alone ahead: 0, 1 it is
        row(Check.coast(DRY + ";monk 5 pace 1;duty 4 from 1 to 1;duty 5 from 2 to 2;duty 6 from 1 to 1"), 0, 0, 1);
        row(Check.coast(DRY + ";monk 5 pace 1;duty 5 from 2 to 2;duty 6 from 1 to 1;duty 4 from 1 to 1"), 0, 1, 0);
        // the second DUTY is the first unlike one
        row(Check.coast(DRY + ";monk 5 pace 1;duty 5 from 0 to 0;duty 3 from 2 to 2;duty 7 from 2 to 2"), 0, 0, 1);
    }

    private static void mostOnTheWay() {
        Check.sentence(30, "from where it is it goes to the PLACE of the next one on the WAY by its PACE and depth 1 from that HOUR on");
        // RANGE 8 by 4 HOURS: WATER 8, 4, 0, 4; flats at 1 and 2
        TideBook book = Check.coast("period 4;range 8 to 8;ground 0 9;ground 3 9;monk 0 pace 3;monk 0 pace 2;duty 3 from 0 to 3;duty 0 from 0 to 7");
        row(book, 0, 0, 1);
        row(book, 1, 1);
        TideBook late = Check.coast("period 4;range 8 to 8;ground 0 9;ground 3 9;monk 0 pace 3;duty 3 from 0 to 2;duty 0 from 4 to 6");
        row(late, 0, 1);
        TideBook deep = Check.coast("range 0 to 0;monk 0 pace 1;duty 1 from 0 to 9");
        deep.wind(1);
        row(deep, 0, 0);
        deep.wind(2);
        row(deep, 0);
    }

    private static void mostDrowned() {
        Check.sentence(30, "MOST of a MONK (not DROWNED)");
        TideBook wet = Check.coast("monk 4 pace 1;duty 4 from 1 to 999");
        wet.hours(1);
        Check.same("DROWNED", 1, wet.count(13));
        row(wet, 0);
    }

    /** Dry land at 0 and 5, flats of WATER 1 at least: by depth 1 one is over behind HOUR 61, which are 60 from HOUR 2 on. */
    private static TideBook longWait(int hours, String monks) {
        TideBook book = Check.coast(Edge6WaysTest.LONG_WAIT + monks);
        for (int i = 0; i < hours; i++) {
            book.hours(1);
        }
        book.wind(1);
        return book;
    }

    private static void sixtyHours() {
        Check.sentence(28, "the fewest HOURS (0 to 60) by which one is there");
        String two = ";monk 0 pace 1;monk 5 pace 1";
        Check.same("fetch in 60 HOURS", 1, longWait(2, two).fetch(0));
        Check.same("fetch in 61 HOURS", TideBook.NONE, longWait(1, two).fetch(0));
        Check.sentence(29, "the fewest HOURS (0 to 60) by which one is there");
        Check.same("send in 60 HOURS", 60, send(longWait(2, ";monk 0 pace 1"), TideBook.NONE, 5));
        Check.same("send in 61 HOURS", TideBook.NONE, send(longWait(1, ";monk 0 pace 1"), TideBook.NONE, 5));
        Check.same("send two in 120 HOURS", 120, send(longWait(2, two), TideBook.NONE, 5, 0) + send(longWait(2, ";monk 0 pace 1;monk 0 pace 1"), TideBook.NONE, 5, 5));
        Check.sentence(30, "the fewest HOURS (0 to 60) by which one is there");
        row(longWait(2, ";monk 0 pace 1;duty 5 from 0 to 62"), 0, 0);
        row(longWait(2, ";monk 0 pace 1;duty 5 from 0 to 61"), 0);
        row(longWait(1, ";monk 0 pace 1;duty 5 from 0 to 999"), 0);
    }
}

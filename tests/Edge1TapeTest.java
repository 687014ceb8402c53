/** The edges of promises 1 to 3: a new object, and the tape. */
public final class Edge1TapeTest {
    private static final int BLANKS = 0x20202020;

    public static void main(String[] args) {
        usedFor512Calls();
        withoutMonks();
        hourAtFirst();
        groundAtFirst();
        tidesAtFirst();
        windAtFirst();
        dutiesAtFirst();
        stormAtFirst();
        bookAtFirst();
        seedAtFirst();
        nothingKeptAtFirst();
        highestByteFirst();
        twentyMore();
        atMost400();
        firstBytesAlone();
        fewerOrBelow0();
        Check.finish();
    }

    private static void usedFor512Calls() {
        Check.sentence(1, "An object is used for at most 512 calls after it has been made; what later calls answer is free.");
        TideBook book = new TideBook();
        for (int i = 1; i < 512; i++) {
            book.hours(19);
        }
        Check.same("the 512th call, count(4) behind 511 times 19 hours", 9709, book.count(4));
    }

    private static void withoutMonks() {
        Check.sentence(1, "A coast without MONKS.");
        TideBook book = new TideBook();
        Check.same("count(0)", 0, book.count(0));
        Check.noIndex("monk(0, 0)", () -> book.monk(0, 0));
        Check.noIndex("fetch(0)", () -> book.fetch(0));
        Check.noIndex("most(0, -1)", () -> book.most(0, -1));
        Check.noIndex("ahead(0, 0)", () -> book.ahead(0, 0));
        Check.noIndex("goal(0, 0)", () -> book.goal(0, 0));
        Check.noIndex("rest(0)", () -> book.rest(0));
        Check.same("stranded()", 0, book.stranded());
        Check.same("doomed(100)", 0, book.doomed(100));
        Check.same("send(NONE) of no places", 0, book.send(TideBook.NONE));
        Check.same("hours(100)", 0, book.hours(100));
        Check.same("rows of the log", 0, book.count(14));
    }

    private static void hourAtFirst() {
        Check.sentence(1, "HOURS 0 to 9999 (HOUR: 0 at first).");
        Check.same("count(4)", 0, new TideBook().count(4));
    }

    private static void groundAtFirst() {
        Check.sentence(1, "GROUND 0 to 19 of each (0 at first)");
        TideBook book = new TideBook();
        for (int place = 0; place < 12; place++) {
            Check.same("ground(" + place + ")", 0, book.ground(place));
        }
    }

    private static void tidesAtFirst() {
        Check.sentence(1, "PERIOD 4 to 24 (12 at first), ROUND 2 to 28 (14 at first), NEAP 0 to 30 (6 at first), SPRING 0 to 30 (12 at first; no less than NEAP).");
        TideBook book = new TideBook();
        Check.same("PERIOD", 12, book.count(5));
        Check.same("ROUND", 14, book.count(6));
        Check.same("NEAP", 6, book.count(7));
        Check.same("SPRING", 12, book.count(8));
        Check.same("RANGE of TIDE 0", 12, book.range(0));
        Check.same("RANGE of TIDE 7", 6, book.range(7));
        Check.same("RANGE of TIDE 14", 12, book.range(14));
    }

    private static void windAtFirst() {
        Check.sentence(1, "WIND (- 5 to 5, 0 at first; 0 at least then)");
        TideBook book = new TideBook();
        Check.same("count(9)", 5, book.count(9));
        Check.same("water(0)", 12, book.water(0));
        Check.same("wind(1), what it was", 0, book.wind(1));
    }

    private static void dutiesAtFirst() {
        Check.sentence(1, "DUTIES (at most 6, numbered from 0 on)");
        TideBook book = new TideBook();
        Check.same("count(1) at first", 0, book.count(1));
        Check.noIndex("duty(0, 0)", () -> book.duty(0, 0));
        Check.noIndex("anew(0)", () -> book.anew(0));
        Check.same("done(100)", 0, book.done(100));
        Check.same("lost()", 0, book.lost());
    }

    private static void stormAtFirst() {
        Check.sentence(1, "STORM 0 to 100 (0 at first).");
        TideBook book = new TideBook();
        Check.same("count(11)", 0, book.count(11));
        Check.same("odds(6, 1)", 0, book.odds(6, 1));
    }

    private static void bookAtFirst() {
        Check.sentence(1, "THE BOOK: EDITION - 3 to 3 (0 at first); ERRORS: of the first 12 TIDES (0 to 11) - 3 to 3 (0 at first).");
        TideBook book = new TideBook();
        Check.same("count(10)", 3, book.count(10));
        Check.same("edition(1), what it was", 0, book.edition(1));
        book.undo();
        for (int tide = 0; tide < 12; tide++) {
            Check.same("printed(" + tide + ")", 12 * tide, book.printed(tide));
        }
    }

    private static void seedAtFirst() {
        Check.sentence(1, "bits 16 to 30 (SEED 1 at first)");
        Check.same("seed(5), what it was", 1, new TideBook().seed(5));
    }

    private static void nothingKeptAtFirst() {
        Check.promise(1);
        TideBook book = new TideBook();
        Check.same("fault()", TideBook.NONE, book.fault());
        Check.same("LINES of no law", TideBook.NONE, book.count(3));
        Check.same("texts", 0, book.count(2));
        Check.same("acts", 0, book.count(15));
        Check.no("undo()", book.undo());
        Check.no("back()", book.back());
        Check.same("log(0, 0)", TideBook.NONE, book.log(0, 0));
        Check.no("a byte on the tape", book.end(1));
    }

    private static void highestByteFirst() {
        Check.sentence(2, "Twenty bytes come behind the TAPE, of each number the highest first: how many it has");
        // just twenty: "ground 11 19;storm 7"
        TideBook book = new TideBook();
        Check.same("how many it has", 20, book.feed(0x67726f75, 0x6e642031, 0x31203139, 0x3b73746f, 0x726d2037));
        Check.same("coast()", 1, book.coast());
        Check.same("ground(11)", 19, book.ground(11));
        Check.same("STORM", 7, book.count(11));
        // bytes of numbers below 0 are bytes of their own: byte 4 of a text is 255, and no blank
        TideBook high = new TideBook();
        high.feed(0x77616974, 0xff202020, BLANKS, BLANKS, BLANKS);
        Check.noArgument("law()", () -> high.law());
        Check.same("fault()", 4, high.fault());
        TideBook low = new TideBook();
        low.feed(0x77616974, 0x202020ff, BLANKS, BLANKS, BLANKS);
        Check.noArgument("law()", () -> low.law());
        Check.same("fault()", 7, low.fault());
    }

    private static void twentyMore() {
        Check.sentence(2, "Twenty bytes come behind the TAPE");
        TideBook book = new TideBook();
        Check.same("on an empty one", 20, book.feed(0x77616974, 0x3b776164, 0x65203120, BLANKS, BLANKS));
        Check.yes("end(11)", book.end(11));
        // "wait;wade 1" and "2": a number of two digits is out of its bounds
        Check.same("behind 11", 31, book.feed(0x32202020, BLANKS, BLANKS, BLANKS, BLANKS));
        Check.noArgument("law() of 'wait;wade 12'", () -> book.law());
        Check.same("fault()", 10, book.fault());
    }

    private static void atMost400() {
        Check.sentence(2, "NONE, and none come, if it would have more than 400.");
        TideBook book = new TideBook();
        for (int i = 1; i <= 20; i++) {
            Check.same("feed " + i, 20 * i, book.feed(BLANKS, BLANKS, BLANKS, BLANKS, BLANKS));
        }
        Check.same("the 21st", TideBook.NONE, book.feed(-1, -1, -1, -1, -1));
        Check.no("end(401)", book.end(401));
        Check.yes("end(400)", book.end(400));
        Check.same("law() of 400 blanks", 0, book.law());
        for (int i = 1; i <= 20; i++) {
            book.feed(BLANKS, BLANKS, BLANKS, BLANKS, BLANKS);
        }
        Check.yes("end(381)", book.end(381));
        Check.same("to 401", TideBook.NONE, book.feed(-1, -1, -1, -1, -1));
        Check.no("end(382)", book.end(382));
        Check.same("law() of 381 blanks", 0, book.law());
        for (int i = 1; i <= 20; i++) {
            book.feed(BLANKS, BLANKS, BLANKS, BLANKS, BLANKS);
        }
        Check.yes("end(380)", book.end(380));
        Check.same("to 400", 400, book.feed(BLANKS, BLANKS, BLANKS, BLANKS, 0x20202077));
        Check.noArgument("law() with a 'w' as the last of 400 bytes", () -> book.law());
        Check.same("fault()", 399, book.fault());
    }

    private static void firstBytesAlone() {
        Check.sentence(3, "The TAPE has its first n bytes alone: true");
        TideBook book = new TideBook();
        Check.yes("end(0) of an empty one", book.end(0));
        book.feed(0x77616974, 0x77616974, 0x77616974, 0x77616974, 0x77616974);
        Check.yes("end(20) of 20", book.end(20));
        Check.yes("end(19)", book.end(19));
        Check.no("the byte behind is gone", book.end(20));
        Check.yes("end(4)", book.end(4));
        Check.same("feed behind 4", 24, book.feed(BLANKS, BLANKS, BLANKS, BLANKS, BLANKS));
        Check.same("law() of 'wait' and blanks", 1, book.law());
        book.feed(0x77616974, 0, 0, 0, 0);
        Check.yes("end(0)", book.end(0));
        Check.no("none is left", book.end(1));
        Check.same("law() of nothing", 0, book.law());
    }

    private static void fewerOrBelow0() {
        Check.sentence(3, "false, and nothing happens, if it has fewer, or n is below 0.");
        for (int n : new int[] {-1, 21, 400, 401, Integer.MIN_VALUE, Integer.MAX_VALUE}) {
            TideBook book = new TideBook();
            book.feed(0x77616974, BLANKS, BLANKS, BLANKS, BLANKS);
            Check.no("end(" + n + ") of 20", book.end(n));
            Check.yes("it has 20 still", book.end(20));
            Check.same("and no more", 40, book.feed(BLANKS, BLANKS, BLANKS, BLANKS, BLANKS));
            Check.same("law() of them", 1, book.law());
        }
        TideBook empty = new TideBook();
        Check.no("end(1) of an empty one", empty.end(1));
        Check.no("end(-1) of an empty one", empty.end(-1));
        Check.same("it is still empty", 20, empty.feed(0, 0, 0, 0, 0));
    }
}

import java.util.function.Function;

/** The edges of promises 31 to 36: what came, amends, witness, clash, blank, neaps. */
public final class Edge8BookTest {
    private static final int[] FAR = {Integer.MIN_VALUE, Integer.MAX_VALUE};

    public static void main(String[] args) {
        cameTape();
        cameUsesTheTape();
        came();
        cameNoneTold();
        cameWithout();
        cameByAllErrors();
        amendsTape();
        amends();
        amendsNoneTold();
        witnessTape();
        witness();
        witnessNone();
        clashEditions();
        clashDays();
        clashBelow0();
        clashBits();
        blank();
        blankNone();
        neaps();
        neapsBits();
        Check.finish();
    }

    private static int came(TideBook book, boolean least, int... told) {
        Check.tape(book, told);
        return book.came(least);
    }

    private static int amends(TideBook book, boolean edition, int... told) {
        Check.tape(book, told);
        return book.amends(edition);
    }

    private static int witness(TideBook book, int... told) {
        Check.tape(book, told);
        return book.witness();
    }

    /** Tapes that are no rows of a TIDE and how late it came; and the most that may be told. */
    private static void toldTapes(Function<TideBook, Object> call, int ofTwenty) {
        int[][] wrong = {{0}, {0, 6, 0}, {12, 6}, {255, 6}, {0, 13}, {0, 255}, {128, 6}, {0, 128}, {0, 6, 12, 6}, {0, 6, 11, 13}, {6, 12, 13, 0},
            new int[39], new int[41], new int[42], new int[400]};
        for (int[] bytes : wrong) {
            Whole.refusedTape("of " + java.util.Arrays.toString(bytes), IllegalArgumentException.class, Whole::rich, b -> {
                Check.tape(b, bytes);
                return call.apply(b);
            });
        }
        TideBook last = new TideBook();
        int[] wrongLast = new int[40];
        wrongLast[39] = 13;
        Check.tape(last, wrongLast);
        Check.noArgument("the last of 40 bytes is wrong", () -> call.apply(last));
        Check.tape(last, new int[40]);
        Check.same("of 40 bytes", ofTwenty, (Integer) call.apply(last));
        Check.no("a byte is left", last.end(1));
        Check.tape(last, 11, 12);
        Check.yes("the last TIDE, the latest", call.apply(last) != null);
        Check.no("a byte is left", last.end(1));
        Check.tape(last);
        Check.yes("none told", call.apply(last) != null);
    }

    private static void cameTape() {
        Check.sentence(31, "Uses the TAPE up: CAME (of each two bytes; at most 40 bytes): how many (least false), or the least; - 9.");
        // twenty times TIDE 0, 6 HOURS sooner: no EDITION
        toldTapes(b -> b.came(false), 0);
        Check.sentence(31, "IllegalArgumentException: the TAPE is not that (none may be told).");
        toldTapes(b -> b.came(true), -9);
    }

    private static void cameUsesTheTape() {
        Check.sentence(31, "EDITIONS (- 3 to 3) by which, all ERRORS as they are, it would be PRINTED for each of these just as it came");
        Whole.leavesAll("nothing stays", Whole::rich, b -> {
            Check.tape(b, 3, 6);
            b.came(true);
            Check.tape(b, "wait");
        });
        TideBook book = new TideBook();
        for (int late = 0; late <= 12; late++) {
            boolean fits = late >= 3 && late <= 9;
            Check.same("how many by EDITION 0, late " + late, fits ? 1 : 0, came(book, false, 5, late));
            Check.same("the least by EDITION 0, late " + late, fits ? late - 6 : -9, came(book, true, 5, late));
        }
    }

    private static void came() {
        Check.sentence(31, "CAME: told are TIDES (0 to 11) and by how much high water came later than PRINTED, and 6 (0 to 12)");
        TideBook most = Check.coast("edition more 3");
        Check.same("as PRINTED", 3, came(most, true, 0, 6));
        Check.same("an HOUR later", -9, came(most, true, 0, 7));
        Check.same("6 HOURS sooner", -3, came(most, true, 11, 0));
        TideBook least = Check.coast("edition less 3");
        Check.same("as PRINTED", -3, came(least, true, 0, 6));
        Check.same("an HOUR sooner", -9, came(least, true, 0, 5));
        Check.same("6 HOURS later", 3, came(least, true, 11, 12));
    }

    private static void cameNoneTold() {
        Check.sentence(31, "(none may be told)");
        Check.same("how many", 7, came(new TideBook(), false));
        Check.same("the least", -3, came(new TideBook(), true));
        Check.same("how many by EDITION 3", 7, came(Check.coast("edition more 3"), false));
    }

    private static void cameWithout() {
        Check.sentence(31, "how many; the least of them; - 9 without.");
        TideBook book = new TideBook();
        Check.same("two that agree", 1, came(book, false, 0, 7, 11, 7));
        Check.same("which", 1, came(book, true, 0, 7, 11, 7));
        Check.same("two that do not", 0, came(book, false, 0, 7, 11, 8));
        Check.same("which", -9, came(book, true, 0, 7, 11, 8));
        Check.same("the last one of three does not", -9, came(book, true, 0, 7, 1, 7, 2, 5));
        Check.same("one TIDE twice alike", 1, came(book, false, 4, 4, 4, 4));
        Check.same("one TIDE twice unlike", 0, came(book, false, 4, 4, 4, 5));
    }

    private static void cameByAllErrors() {
        Check.sentence(31, "all ERRORS as they are");
        TideBook book = Check.coast("error 0 less 3;error 1 more 3;edition less 1");
        // later than PRINTED, which has the ERROR in it
        Check.same("both an HOUR later", 0, came(book, true, 0, 7, 1, 7));
        Check.same("an HOUR later and sooner", -9, came(book, true, 0, 7, 1, 5));
    }

    private static void amendsTape() {
        Check.sentence(32, "Uses the TAPE up: AMENDS (the TAPE likewise): how many (edition false), or that EDITION.");
        toldTapes(b -> b.amends(false), 20);
        Check.sentence(32, "IllegalArgumentException: the TAPE is not that.");
        toldTapes(b -> b.amends(true), -3);
    }

    private static void amends() {
        Check.sentence(32, "AMENDS: the fewest of the told rows for which it would not be PRINTED so by one and the same EDITION: how many; that EDITION (of several the least).");
        TideBook book = new TideBook();
        Check.same("one row, the least EDITION", 0, amends(book, false, 0, 3));
        Check.same("one row, the least EDITION", -3, amends(book, true, 0, 3));
        Check.same("one row, the greatest EDITION", 0, amends(book, false, 0, 9));
        Check.same("one row, the greatest EDITION", 3, amends(book, true, 0, 9));
        Check.same("one row, beyond it", 1, amends(book, false, 0, 10));
        Check.same("one row, beyond it", -3, amends(book, true, 0, 10));
        Check.same("one row, below the least", 1, amends(book, false, 0, 2));
        Check.same("one of each: of several the least", 1, amends(book, false, 0, 9, 1, 4));
        Check.same("one of each: of several the least", -2, amends(book, true, 0, 9, 1, 4));
        Check.same("two of three", 1, amends(book, false, 0, 9, 1, 4, 2, 9));
        Check.same("two of three", 3, amends(book, true, 0, 9, 1, 4, 2, 9));
        Check.same("two and two and one", 3, amends(book, false, 0, 8, 1, 4, 2, 8, 3, 4, 5, 12));
        Check.same("two and two and one", -2, amends(book, true, 0, 8, 1, 4, 2, 8, 3, 4, 5, 12));
        Check.same("a row told twice counts twice", 1, amends(book, false, 0, 8, 0, 8, 1, 4));
        Check.same("a row told twice counts twice", 2, amends(book, true, 0, 8, 0, 8, 1, 4));
        Check.same("EDITION itself is as it was", 3, book.count(10));
        TideBook other = Check.coast("edition more 2;error 4 less 3");
        Check.same("by EDITION 2, an HOUR later", 3, amends(other, true, 4, 7));
        Check.same("by EDITION 2, two HOURS later", 1, amends(other, false, 4, 8));
        Check.same("by EDITION 2, five HOURS sooner", -3, amends(other, true, 4, 1));
    }

    private static void amendsNoneTold() {
        Check.sentence(32, "(the TAPE likewise)");
        Check.same("none told: how many", 0, amends(new TideBook(), false));
        Check.same("none told: the least EDITION", -3, amends(new TideBook(), true));
    }

    private static void witnessTape() {
        Check.sentence(33, "Uses the TAPE up: WITNESS (the TAPE likewise); NONE.");
        toldTapes(b -> b.witness(), 1);
        Check.sentence(33, "IllegalArgumentException: the TAPE is not that.");
        TideBook book = new TideBook();
        Check.tape(book, 0, 13);
        Check.noArgument("witness()", () -> book.witness());
        Check.no("a byte is left", book.end(1));
    }

    private static void witness() {
        Check.sentence(33, "WITNESS: the TIDE (0 to 11) that is not told of the greatest ERROR, above or below 0 (of several the least; none).");
        TideBook book = Check.coast("error 1 more 1;error 3 less 2;error 6 more 2;error 10 more 3;error 11 less 3");
        Check.same("none told: of two the least", 10, witness(book));
        Check.same("10 told", 11, witness(book, 10, 0));
        Check.same("both told", 3, witness(book, 10, 0, 11, 12));
        Check.same("3, too", 6, witness(book, 3, 6, 10, 0, 11, 12));
        Check.same("6, too", 1, witness(book, 6, 6, 3, 6, 10, 0, 11, 12));
        Check.same("1, too: ERROR 0", 0, witness(book, 1, 1, 6, 6, 3, 6, 10, 0, 11, 12));
        Check.same("0, too", 2, witness(book, 0, 0, 1, 1, 6, 6, 3, 6, 10, 0, 11, 12));
        Check.same("told twice", 11, witness(book, 10, 0, 10, 5));
        Check.same("without an ERROR the first", 0, witness(new TideBook()));
    }

    private static void witnessNone() {
        Check.sentence(33, "(of several the least; none)");
        int[] all = new int[24];
        for (int tide = 0; tide < 12; tide++) {
            all[2 * tide] = tide;
        }
        Check.same("all told", TideBook.NONE, witness(new TideBook(), all));
        Check.same("all but the last", 11, witness(new TideBook(), java.util.Arrays.copyOf(all, 22)));
        Check.same("all but the first", 0, witness(new TideBook(), java.util.Arrays.copyOfRange(all, 2, 24)));
    }

    private static void clashEditions() {
        Check.sentence(34, "IllegalArgumentException: an EDITION is none.");
        TideBook book = new TideBook();
        // the even TIDES are at midnight, -3 puts them on the day before
        Check.same("clash(-3, 3)", 0b010101010101, book.clash(-3, 3));
        Check.same("clash(3, -3)", 0b010101010101, book.clash(3, -3));
        Whole.noArgument("clash(-4, 0)", b -> b.clash(-4, 0));
        Whole.noArgument("clash(4, 0)", b -> b.clash(4, 0));
        Whole.noArgument("clash(0, -4)", b -> b.clash(0, -4));
        Whole.noArgument("clash(0, 4)", b -> b.clash(0, 4));
        for (int far : FAR) {
            Whole.noArgument("clash(" + far + ", 0)", b -> b.clash(far, 0));
            Whole.noArgument("clash(0, " + far + ")", b -> b.clash(0, far));
        }
    }

    private static void clashDays() {
        Check.sentence(34, "CLASH of two EDITIONS (each - 3 to 3): TIDES (0 to 11) whose PRINTED HOURS by these are on unlike days (HOURS by 24, rounded down; below 0 is a day of its own), as bits.");
        // PERIOD 23: TIDES at 0, 23, 46, 69, 92, ..
        TideBook book = Check.coast("period 23");
        Check.same("23 and 24", 0b10, book.clash(0, 1) & 0b11);
        Check.same("22 and 23", 0, book.clash(-1, 0) & 0b10);
        // 46 and 47 to 48: TIDE 2 by 2 and by 1
        Check.same("47 and 48", 0b100, book.clash(1, 2) & 0b111);
        Check.same("one and the same", 0, book.clash(3, 3));
        TideBook day = Check.coast("period 24");
        Check.same("midnight and an HOUR before", 0b111111111111, day.clash(-1, 0));
        Check.same("midnight and 3 HOURS behind", 0, day.clash(3, 0));
        day.error(5, 1);
        Check.same("by its ERROR", 0b111111011111, day.clash(-1, 0));
        day.edition(-3);
        Check.same("whatever EDITION is", 0b111111011111, day.clash(-1, 0));
    }

    private static void clashBelow0() {
        Check.sentence(34, "below 0 is a day of its own");
        TideBook book = Check.coast("period 12;error 0 less 3");
        Check.same("- 6 and - 1 are one day", 0, book.clash(-3, 2) & 1);
        Check.same("- 1 and 0 are two", 1, book.clash(2, 3) & 1);
        Check.same("- 6 and 0 are two", 1, book.clash(-3, 3) & 1);
        book.error(0, 0);
        Check.same("0 and 3 are one", 0, book.clash(0, 3) & 1);
        Check.same("- 3 and - 1 are one", 0, book.clash(-3, -1) & 1);
    }

    private static void clashBits() {
        Check.sentence(34, "CLASH, as bits.");
        // PERIOD 13: 143 is TIDE 11, 144 midnight; else 24 is near to none of 13, 26, 39, 52, ..
        TideBook last = Check.coast("period 13");
        Check.same("TIDE 11 alone", 1 << 11, last.clash(0, 1));
        Check.same("no bit behind it", 0, last.clash(-3, 3) >> 12);
        Check.same("none", 0, Check.coast("period 12").clash(0, 3));
        Check.same("TIDE 0 alone", 1, last.clash(-1, 0));
    }

    private static void blank() {
        Check.sentence(35, "BLANK: the first TIDE (0 to 11) whose PRINTED HOUR is not above that of the one before; none.");
        TideBook book = Check.coast("period 6");
        book.error(0, 3);
        Check.same("9 behind 3", TideBook.NONE, blankWith(book, 1, -2));
        Check.same("3 behind 3", 1, blankWith(book, 1, -3));
        TideBook last = Check.coast("period 6;error 10 more 3");
        Check.same("64 behind 63", TideBook.NONE, blankWith(last, 11, -2));
        Check.same("63 behind 63", 11, blankWith(last, 11, -3));
        TideBook below = Check.coast("period 4;error 3 more 3;error 4 less 3");
        Check.same("13 behind 15", 4, below.blank());
        TideBook two = Check.coast("period 4;error 3 more 3;error 4 less 3;error 8 more 3;error 9 less 3");
        Check.same("the first", 4, two.blank());
        two.error(4, 0);
        Check.same("the other one", 9, two.blank());
        Check.same("the first TIDE has none before", TideBook.NONE, Check.coast("edition less 3;error 0 less 3").blank());
    }

    private static int blankWith(TideBook book, int tide, int error) {
        book.error(tide, error);
        return book.blank();
    }

    private static void blankNone() {
        Check.sentence(35, "BLANK; NONE.");
        Check.same("without ERRORS", TideBook.NONE, new TideBook().blank());
        Check.same("the least PERIOD", TideBook.NONE, Check.coast("period 4").blank());
        TideBook book = Check.coast("period 4;error 0 more 3;error 1 more 0");
        Check.same("4 behind 3", TideBook.NONE, book.blank());
        book.edition(-3);
        Check.same("whatever EDITION is", TideBook.NONE, book.blank());
    }

    private static void neaps() {
        Check.sentence(36, "NEAPS: TIDES (0 to 11) whose RANGE is NEAP, as bits.");
        // ROUND 4: RANGES 30, 15, 0, 15
        Check.same("twice k is ROUND", 0b010001000100, Check.coast("round 4;range 0 to 30").neaps());
        // ROUND 3, 3 more: a third of 3 is 1; 2 more: none
        Check.same("rounded down to 1 more", 0, Check.coast("round 3;range 5 to 8").neaps());
        Check.same("rounded down to NEAP", 0b110110110110, Check.coast("round 3;range 5 to 7").neaps());
        Check.same("SPRING is NEAP", 0b111111111111, Check.coast("range 5 to 5").neaps());
        Check.same("both are 0", 0b111111111111, Check.coast("range 0 to 0").neaps());
        Check.same("whatever the WIND is", 0b111111111111, withWind(Check.coast("range 0 to 0")).neaps());
    }

    private static TideBook withWind(TideBook book) {
        book.wind(5);
        return book;
    }

    private static void neapsBits() {
        Check.sentence(36, "NEAPS, as bits.");
        Check.same("TIDE 11 alone", 1 << 11, Check.coast("round 22;range 0 to 30").neaps());
        Check.same("TIDE 12 is none", 0, Check.coast("round 24;range 0 to 30").neaps());
        Check.same("all but TIDE 0", 0b111111111110, Check.coast("round 28;range 0 to 1").neaps());
        Check.same("no TIDE 0, but TIDE 1", 0b101010101010, Check.coast("round 2;range 0 to 30").neaps());
    }
}

/** The edges of promises 21 to 27: high and low water, dry hours, ways, starts, safe hours. */
public final class Edge6WaysTest {
    private static final int[] FAR = {Integer.MIN_VALUE, Integer.MAX_VALUE};

    /** WATER 12, 10, 8, 6, 4, 2, 0, 2, 4, 6, 8, 10 in each TIDE; dry land at 0 and at 3, flats between and behind. */
    private static final String FLATS = "range 12 to 12;ground 0 19;ground 3 19";

    /**
     * RANGES 19, 11, 3, 3, 11 of 24 HOURS each, four flats between dry land at 0 and 5: by 1 and depth 0 one
     * needs five HOURS of no WATER in a row, which begin in HOUR 57 alone; one is over behind HOUR 61.
     */
    static final String LONG_WAIT = "period 24;round 5;range 0 to 19;ground 0 19;ground 5 19";

    public static void main(String[] args) {
        highHours();
        highs();
        lowTides();
        lows();
        dryTides();
        dries();
        highestTides();
        highests();
        wayBounds();
        paceAtMost();
        endsOfTheRow();
        comesTo();
        atItsEnd();
        stays();
        sixtyHours();
        bothAreOne();
        noWay();
        behindTheLastHour();
        startBounds();
        starts();
        safeBounds();
        firstAboveOther();
        safes();
        windAsItIs();
        Check.finish();
    }

    private static void highHours() {
        Check.sentence(21, "IllegalArgumentException: the HOUR is none.");
        Check.same("high(0)", 0, new TideBook().high(0));
        Check.same("high(9999)", 10008, new TideBook().high(9999));
        Whole.noArgument("high(-1)", b -> b.high(-1));
        Whole.noArgument("high(10000)", b -> b.high(10000));
        for (int hour : FAR) {
            Whole.noArgument("high(" + hour + ")", b -> b.high(hour));
        }
    }

    private static void highs() {
        Check.sentence(21, "HIGH: the first HOUR from a told one (0 to 9999) on with STEP 0 (it may be above 9999)");
        TideBook book = Check.coast("period 4");
        int[] want = {0, 4, 4, 4, 4, 8};
        for (int hour = 0; hour < want.length; hour++) {
            Check.same("high(" + hour + ")", want[hour], book.high(hour));
        }
        Check.same("the last TIDE", 9996, book.high(9996));
        Check.same("above 9999", 10000, book.high(9997));
        // 9999 is 9 times 1111
        Check.same("9999 itself", 9999, Check.coast("period 9").high(9999));
        Check.same("up to it", 9999, Check.coast("period 9").high(9991));
        // 24 times 417
        Check.same("the greatest PERIOD", 10008, Check.coast("period 24").high(9985));
        Check.same("the greatest PERIOD", 9984, Check.coast("period 24").high(9984));
    }

    private static void lowTides() {
        Check.sentence(22, "IllegalArgumentException: the TIDE is none.");
        Check.same("low(0)", 6, new TideBook().low(0));
        Check.same("low(400)", 4806, new TideBook().low(400));
        Check.same("low(400) by the greatest PERIOD", 9612, Check.coast("period 24;range 30 to 30").low(400));
        Whole.noArgument("low(-1)", b -> b.low(-1));
        Whole.noArgument("low(401)", b -> b.low(401));
        for (int tide : FAR) {
            Whole.noArgument("low(" + tide + ")", b -> b.low(tide));
        }
    }

    private static void lows() {
        Check.sentence(22, "LOW: the HOUR of a told TIDE (0 to 400) with the least WATER (of several the first).");
        // 30, 18, 6, 6, 18
        TideBook odd = Check.coast("period 5;range 30 to 30");
        Check.same("the first of two", 2, odd.low(0));
        Check.same("of the next TIDE", 7, odd.low(1));
        odd.wind(-5);
        Check.same("1, 1 of them still", 2, odd.low(0));
        Check.same("no WATER at all", 15, Check.coast("period 5;range 0 to 0").low(3));
        // 10, 5, 0, 5
        TideBook even = Check.coast("period 4;range 10 to 10");
        Check.same("the least", 6, even.low(1));
        even.wind(-5);
        Check.same("three of no WATER", 5, even.low(1));
        even.wind(-4);
        Check.same("one of no WATER", 6, even.low(1));
        // RANGE 30 in TIDE 0, none in TIDE 1: 30, 18, 6, 6, 18, 0
        Check.same("of no HOUR of the next TIDE", 2, Check.coast("period 5;round 2;range 0 to 30").low(0));
        Check.same("of no HOUR of the TIDE before", 12, Check.coast("period 5;round 2;range 0 to 30").low(2));
        TideBook first = Check.coast("period 4;range 2 to 2");
        first.wind(-2);
        Check.same("all four", 4, first.low(1));
    }

    private static void dryTides() {
        Check.sentence(23, "IllegalArgumentException: the TIDE is none.");
        Check.same("dry(0, 0)", 1, new TideBook().dry(0, 0));
        // TIDE 400 is 8 modulo 14: RANGE 6, twice STEP is below 2 away from 12 in STEP 6 alone
        Check.same("dry(11, 400)", 1, new TideBook().dry(11, 400));
        Whole.noArgument("dry(0, -1)", b -> b.dry(0, -1));
        Whole.noArgument("dry(0, 401)", b -> b.dry(0, 401));
        for (int tide : FAR) {
            Whole.noArgument("dry(0, " + tide + ")", b -> b.dry(0, tide));
        }
        Check.sentence(23, "IndexOutOfBoundsException: there is no such PLACE, MONK, DUTY.");
        Whole.noIndex("dry(-1, 0)", b -> b.dry(-1, 0));
        Whole.noIndex("dry(12, 0)", b -> b.dry(12, 0));
        for (int place : FAR) {
            Whole.noIndex("dry(" + place + ", 0)", b -> b.dry(place, 0));
        }
        Check.sentence(23, "Of several exceptions the one told first is thrown");
        Whole.noIndex("dry(12, 401)", b -> b.dry(12, 401));
        Whole.noIndex("dry(-1, -1)", b -> b.dry(-1, -1));
    }

    private static void dries() {
        Check.sentence(23, "DRY of a PLACE: how many HOURS of a told TIDE (0 to 400) have DEPTH 0 there.");
        TideBook book = Check.coast("range 12 to 12;ground 1 1;ground 2 2;ground 3 10;ground 4 11;ground 5 12;ground 11 19");
        int[] want = {1, 1, 3, 11, 11, 12};
        for (int place = 0; place < want.length; place++) {
            Check.same("dry(" + place + ", 3)", want[place], book.dry(place, 3));
        }
        Check.same("dry(11, 400)", 12, book.dry(11, 400));
        book.wind(1);
        Check.same("none", 0, book.dry(0, 0));
        // 20, 16, .. and 19, 15, ..: the highest GROUND is wet by 20
        TideBook high = Check.coast("period 10;range 20 to 20;ground 0 19;ground 1 18");
        Check.same("GROUND 19 by WATER 20", 9, high.dry(0, 0));
        high.wind(-1);
        Check.same("GROUND 19 by WATER 19", 10, high.dry(0, 0));
        Check.same("GROUND 18 by WATER 19", 9, high.dry(1, 0));
        TideBook most = Check.coast("period 10;range 30 to 30;ground 0 19;ground 1 18");
        // 30, 24, 18, 12, 6, 0, 6, ..
        Check.same("GROUND 19 by WATER 30, D 9", 9, most.safe(0, 0, 9, 0));
        most.wind(-2);
        Check.same("GROUND 19 by WATER 28, D 9", 10, most.safe(0, 0, 9, 0));
        Check.same("GROUND 18 by WATER 28, D 9", 9, most.safe(1, 1, 9, 0));
        // ROUND 2: the WATER of TIDE 0 is 4 in STEP 0, that of TIDE 1 none
        TideBook two = Check.coast("period 4;round 2;range 0 to 4");
        Check.same("its own HOURS alone", 1, two.dry(0, 0));
        Check.same("its own HOURS alone", 4, two.dry(0, 1));
    }

    private static void highestTides() {
        Check.sentence(24, "IllegalArgumentException: the TIDE is none.");
        Check.same("highest(0)", 0, new TideBook().highest(0));
        // 406 is 29 times 14
        Check.same("highest(400)", 406, new TideBook().highest(400));
        Whole.noArgument("highest(-1)", b -> b.highest(-1));
        Whole.noArgument("highest(401)", b -> b.highest(401));
        for (int tide : FAR) {
            Whole.noArgument("highest(" + tide + ")", b -> b.highest(tide));
        }
    }

    private static void highests() {
        Check.sentence(24, "HIGHEST: of as many TIDES as ROUND from a told one (0 to 400) on the one of the greatest RANGE (of several the first).");
        for (int round : new int[] {2, 3, 28}) {
            TideBook book = Check.coast("round " + round + ";range 0 to 30");
            Check.same("the first of them, ROUND " + round, 0, book.highest(0));
            Check.same("the last of them, ROUND " + round, round, book.highest(1));
            Check.same("the second of them, ROUND " + round, round, book.highest(round - 1));
            Check.same("the first of them again, ROUND " + round, round, book.highest(round));
            TideBook flat = Check.coast("round " + round + ";range 5 to 5");
            Check.same("of several the first, ROUND " + round, 0, flat.highest(0));
            Check.same("of several the first, ROUND " + round, 400, flat.highest(400));
        }
    }

    private static void wayBounds() {
        Check.sentence(25, "IllegalArgumentException: the PACE, D or the HOUR are none.");
        TideBook dry = Check.coast("range 0 to 0");
        Check.same("PACE 1", 11, dry.way(0, 11, 1, 0, 0));
        Check.same("PACE 4", 3, dry.way(11, 0, 4, 0, 0));
        Check.same("D 9", 3, dry.way(11, 0, 4, 9, 0));
        Check.same("HOUR 9999", 3, dry.way(11, 0, 4, 9, 9999));
        Whole.noArgument("PACE 0", b -> b.way(0, 1, 0, 0, 0));
        Whole.noArgument("PACE 5", b -> b.way(0, 1, 5, 0, 0));
        Whole.noArgument("D - 1", b -> b.way(0, 1, 1, -1, 0));
        Whole.noArgument("D 10", b -> b.way(0, 1, 1, 10, 0));
        Whole.noArgument("HOUR - 1", b -> b.way(0, 1, 1, 0, -1));
        Whole.noArgument("HOUR 10000", b -> b.way(0, 1, 1, 0, 10000));
        Whole.noArgument("PACE 0, where one is", b -> b.way(3, 3, 0, 0, 0));
        Whole.noArgument("D 10, where one is", b -> b.way(3, 3, 1, 10, 0));
        Whole.noArgument("HOUR 10000, where one is", b -> b.way(3, 3, 1, 0, 10000));
        for (int far : FAR) {
            Whole.noArgument("PACE " + far, b -> b.way(0, 1, far, 0, 0));
            Whole.noArgument("D " + far, b -> b.way(0, 1, 1, far, 0));
            Whole.noArgument("HOUR " + far, b -> b.way(0, 1, 1, 0, far));
        }
        Check.sentence(25, "IndexOutOfBoundsException: there is no such PLACE, MONK, DUTY.");
        Whole.noIndex("from - 1", b -> b.way(-1, 0, 1, 0, 0));
        Whole.noIndex("from 12", b -> b.way(12, 0, 1, 0, 0));
        Whole.noIndex("to - 1", b -> b.way(0, -1, 1, 0, 0));
        Whole.noIndex("to 12", b -> b.way(0, 12, 1, 0, 0));
        for (int far : FAR) {
            Whole.noIndex("from " + far, b -> b.way(far, 0, 1, 0, 0));
            Whole.noIndex("to " + far, b -> b.way(0, far, 1, 0, 0));
        }
        Check.sentence(25, "Of several exceptions the one told first is thrown");
        Whole.noIndex("from 12, PACE 0", b -> b.way(12, 0, 0, 0, 0));
        Whole.noIndex("to 12, D 10", b -> b.way(0, 12, 1, 10, 0));
        Whole.noIndex("both 12, HOUR - 1", b -> b.way(12, 12, 1, 0, -1));
    }

    private static void paceAtMost() {
        Check.sentence(25, "in each HOUR one goes to PLACES beside, one by one, either way, PACE at most, or stays");
        TideBook dry = Check.coast("range 0 to 0");
        for (int pace = 1; pace <= 4; pace++) {
            Check.same("up, as far as PACE " + pace, 1, dry.way(3, 3 + pace, pace, 0, 0));
            Check.same("up, one more than PACE " + pace, 2, dry.way(3, 4 + pace, pace, 0, 0));
            Check.same("down, as far as PACE " + pace, 1, dry.way(9, 9 - pace, pace, 0, 0));
            Check.same("down, one more than PACE " + pace, 2, dry.way(9, 8 - pace, pace, 0, 0));
            Check.same("twice PACE " + pace, 2, dry.way(0, 2 * pace, pace, 0, 0));
        }
    }

    private static void endsOfTheRow() {
        Check.sentence(25, "PLACES 0 to 11 in a row");
        TideBook book = Check.coast("range 12 to 12;ground 0 19;ground 11 19");
        // D 0: the flats are dry in STEP 6 alone, and wet in STEP 7; nobody goes over 10 of them at once
        Check.same("no way round from 0 to 11", TideBook.NONE, book.way(0, 11, 4, 0, 0));
        Check.same("no way round from 11 to 0", TideBook.NONE, book.way(11, 0, 4, 0, 0));
        Check.same("from end to end by D 9", 4, Check.coast("range 9 to 9").way(0, 11, 3, 9, 0));
    }

    private static void comesTo() {
        Check.sentence(25, "each PLACE that one comes to has DEPTH D at most in that HOUR");
        TideBook book = Check.coast("range 12 to 12;ground 0 19;ground 1 3;ground 2 19");
        // DEPTH 9 at PLACE 1 in HOUR 0, 7 in HOUR 1
        Check.same("just D on the way", 1, book.way(0, 2, 2, 9, 0));
        Check.same("one more than D on the way", 2, book.way(0, 2, 2, 8, 0));
        Check.same("just D in HOUR 1", 2, book.way(0, 2, 2, 7, 0));
        Check.same("one more than D in HOUR 1, DEPTH 5 in HOUR 2", 3, book.way(0, 2, 2, 6, 0));
        Check.same("just D where one goes to", 1, book.way(0, 1, 1, 9, 0));
        Check.same("one more than D where one goes to", 2, book.way(0, 1, 1, 8, 0));
    }

    private static void atItsEnd() {
        Check.sentence(25, "and that where one is at its end DEPTH D at most in the next HOUR, too");
        TideBook book = Check.coast(FLATS);
        // HOUR 8 has 4, HOUR 9 has 6; from 4 on, too, in HOURS 16 and 17
        Check.same("just D in the next HOUR", 1, book.way(0, 1, 1, 6, 8));
        Check.same("one more than D in the next HOUR", 9, book.way(0, 1, 1, 5, 8));
        Check.same("two flats by 1 in HOURS 7 and 8", 2, book.way(1, 3, 1, 5, 7));
        Check.same("too late by 1: back to 0, and over with the next TIDE", 11, book.way(1, 3, 1, 5, 8));
        Check.same("by 2 one is off in time", 1, book.way(1, 3, 2, 5, 8));
        // dry land is dry in the next HOUR, the flats on the way need not be
        Check.same("over both flats in HOUR 8", 1, book.way(0, 3, 3, 4, 8));
        Check.same("one flat too many for 2", 9 + 1, book.way(0, 3, 2, 4, 8));
    }

    private static void stays() {
        Check.sentence(25, "PACE at most, or stays");
        TideBook book = Check.coast(FLATS);
        // out on the flats of 4 to 11, HOUR 3 has 6, HOUR 4 has 4
        Check.same("where one starts may be deeper in that HOUR, but not in the next one", 2, book.way(7, 8, 1, 5, 3));
        Check.same("it is deeper in the next one, too", TideBook.NONE, book.way(7, 8, 1, 5, 2));
        Check.same("off the deep to dry land beside", 1, book.way(1, 0, 1, 5, 0));
        Check.same("off the deep, and over with low water", 7, book.way(1, 3, 1, 5, 0));
        Check.same("one stays on dry land as long as need be", 5, book.way(0, 1, 1, 4, 0));
        // a bank on GROUND 4 in the flats: DEPTH 6, 4, 2, 0 in HOURS 1 to 4; beside it DEPTH 2 in HOUR 5
        TideBook bank = Check.coast("range 12 to 12;ground 5 4");
        Check.same("one stays on a bank", 3, bank.way(5, 6, 1, 2, 3));
        Check.same("D at most in the next HOUR", 4, bank.way(5, 6, 1, 2, 2));
        Check.same("more in the next HOUR", TideBook.NONE, bank.way(5, 6, 1, 2, 1));
    }

    private static void sixtyHours() {
        Check.sentence(25, "the fewest HOURS (0 to 60) by which one is there");
        TideBook book = Check.coast(LONG_WAIT);
        Check.same("from HOUR 57 on", 5, book.way(0, 5, 1, 0, 57));
        Check.same("59 HOURS", 59, book.way(0, 5, 1, 0, 3));
        Check.same("60 HOURS", 60, book.way(0, 5, 1, 0, 2));
        Check.same("61 HOURS", TideBook.NONE, book.way(0, 5, 1, 0, 1));
        Check.same("62 HOURS", TideBook.NONE, book.way(0, 5, 1, 0, 0));
    }

    private static void bothAreOne() {
        Check.sentence(25, "(0, if both are one)");
        TideBook book = Check.coast("range 30 to 30");
        Check.same("in deep water", 0, book.way(5, 5, 1, 0, 0));
        Check.same("at 0", 0, book.way(0, 0, 4, 9, 9999));
        Check.same("at 11", 0, book.way(11, 11, 1, 0, 1));
    }

    private static void noWay() {
        Check.sentence(25, "WAY; NONE.");
        TideBook book = Check.coast("range 30 to 30;ground 0 19");
        book.wind(5);
        // WATER is 5 at least
        Check.same("never below 5", TideBook.NONE, book.way(0, 1, 4, 4, 0));
        Check.same("5 in one HOUR, but 10 in the next", TideBook.NONE, book.way(0, 1, 4, 9, 0));
        Check.same("out in the deep", TideBook.NONE, book.way(5, 6, 4, 0, 0));
    }

    private static void behindTheLastHour() {
        Check.sentence(25, "from a told HOUR on: in each HOUR one goes");
        // 9999 is STEP 3 of 12: WATER 6, then 4, 2, 0 in HOURS 10000, 10001, 10002
        TideBook book = Check.coast(FLATS);
        Check.same("just D in HOURS 9999 and 10000", 1, book.way(0, 1, 1, 6, 9999));
        Check.same("D in HOUR 10000", 2, book.way(0, 1, 1, 5, 9999));
        Check.same("no WATER in HOUR 10002", 4, book.way(0, 3, 3, 0, 9999));
    }

    private static void startBounds() {
        Check.sentence(26, "IllegalArgumentException: the PACE, D or the TIDE are none.");
        TideBook dry = Check.coast("range 0 to 0");
        Check.same("PACE 1, D 0, TIDE 0", 11, dry.start(0, 11, 1, 0, 0));
        Check.same("PACE 4, D 9, TIDE 400", 4811, dry.start(11, 0, 4, 9, 400));
        Whole.noArgument("PACE 0", b -> b.start(0, 1, 0, 0, 0));
        Whole.noArgument("PACE 5", b -> b.start(0, 1, 5, 0, 0));
        Whole.noArgument("D - 1", b -> b.start(0, 1, 1, -1, 0));
        Whole.noArgument("D 10", b -> b.start(0, 1, 1, 10, 0));
        Whole.noArgument("TIDE - 1", b -> b.start(0, 1, 1, 0, -1));
        Whole.noArgument("TIDE 401", b -> b.start(0, 1, 1, 0, 401));
        Whole.noArgument("PACE 5, where one is", b -> b.start(3, 3, 5, 0, 0));
        for (int far : FAR) {
            Whole.noArgument("PACE " + far, b -> b.start(0, 1, far, 0, 0));
            Whole.noArgument("D " + far, b -> b.start(0, 1, 1, far, 0));
            Whole.noArgument("TIDE " + far, b -> b.start(0, 1, 1, 0, far));
        }
        Check.sentence(26, "IndexOutOfBoundsException: there is no such PLACE, MONK, DUTY.");
        Whole.noIndex("from - 1", b -> b.start(-1, 0, 1, 0, 0));
        Whole.noIndex("from 12", b -> b.start(12, 0, 1, 0, 0));
        Whole.noIndex("to - 1", b -> b.start(0, -1, 1, 0, 0));
        Whole.noIndex("to 12", b -> b.start(0, 12, 1, 0, 0));
        for (int far : FAR) {
            Whole.noIndex("from " + far, b -> b.start(far, 0, 1, 0, 0));
            Whole.noIndex("to " + far, b -> b.start(0, far, 1, 0, 0));
        }
        Check.sentence(26, "Of several exceptions the one told first is thrown");
        Whole.noIndex("from 12, PACE 0", b -> b.start(12, 0, 0, 0, 0));
        Whole.noIndex("to 12, TIDE 401", b -> b.start(0, 12, 1, 0, 401));
    }

    private static void starts() {
        Check.sentence(26, "START: the latest HOUR of a told TIDE (0 to 400) from which on there is such a WAY; none.");
        // RANGES 4, 2, 0, 2, 4 in TIDES 12 to 16 of 4 HOURS each; three flats on GROUND 1 are dry by 1 at most,
        // which is in HOURS 53 to 59, and 61 to 63; by 1 one needs four HOURS in a row
        TideBook book = Check.coast("period 4;round 28;range 0 to 28;ground 0 19;ground 1 1;ground 2 1;ground 3 1;ground 4 19");
        Check.same("from HOUR 56 on", 4, book.way(0, 4, 1, 0, 56));
        Check.same("the last HOUR of the TIDE", 55, book.start(0, 4, 1, 0, 13));
        Check.same("the first HOUR of the TIDE alone", 56, book.start(0, 4, 1, 0, 14));
        Check.same("none", TideBook.NONE, book.start(0, 4, 1, 0, 15));
        Check.same("by 2 in HOURS 62 and 63", 62, book.start(0, 4, 2, 0, 15));
        // RANGES 30, 15, 0, 15, 30 in TIDES 0 to 4 of 5 HOURS: 3 at least in TIDE 3, where one is out on the flats
        TideBook out = Check.coast("period 5;round 4;range 0 to 30;ground 9 19");
        Check.same("off the flats in the last HOUR of the TIDE", 14, out.start(5, 9, 4, 2, 2));
        Check.same("in no HOUR of the next one", TideBook.NONE, out.start(5, 9, 4, 2, 3));
        Check.same("in the last HOUR of the TIDE, by one who stays for the next", 9, out.start(5, 9, 4, 2, 1));
        Check.same("where one is, TIDE 0", 3, book.start(6, 6, 1, 0, 0));
        Check.same("where one is, TIDE 400", 1603, book.start(6, 6, 1, 0, 400));
        // 60 HOURS count, 61 do not: all HOURS of TIDE 0 but the first two
        TideBook wait = Check.coast(LONG_WAIT);
        Check.same("the WAY may end far behind the TIDE", 23, wait.start(0, 5, 1, 0, 0));
    }

    private static void safeBounds() {
        Check.sentence(27, "IllegalArgumentException: the first PLACE is above the other one, or D or the TIDE are none.");
        TideBook dry = Check.coast("range 0 to 0");
        Check.same("the whole row, D 0, TIDE 0", 12, dry.safe(0, 11, 0, 0));
        Check.same("the whole row, D 9, TIDE 400", 12, dry.safe(0, 11, 9, 400));
        Whole.noArgument("D - 1", b -> b.safe(0, 1, -1, 0));
        Whole.noArgument("D 10", b -> b.safe(0, 1, 10, 0));
        Whole.noArgument("TIDE - 1", b -> b.safe(0, 1, 0, -1));
        Whole.noArgument("TIDE 401", b -> b.safe(0, 1, 0, 401));
        for (int far : FAR) {
            Whole.noArgument("D " + far, b -> b.safe(0, 1, far, 0));
            Whole.noArgument("TIDE " + far, b -> b.safe(0, 1, 0, far));
        }
        Check.sentence(27, "IndexOutOfBoundsException: there is no such PLACE, MONK, DUTY.");
        Whole.noIndex("from - 1", b -> b.safe(-1, 1, 0, 0));
        Whole.noIndex("to 12", b -> b.safe(0, 12, 0, 0));
        Whole.noIndex("both 12", b -> b.safe(12, 12, 0, 0));
        for (int far : FAR) {
            Whole.noIndex("from " + far, b -> b.safe(far, 11, 0, 0));
            Whole.noIndex("to " + far, b -> b.safe(0, far, 0, 0));
        }
        Check.sentence(27, "Of several exceptions the one told first is thrown");
        Whole.noIndex("from 12 above to 0", b -> b.safe(12, 0, 0, 0));
        Whole.noIndex("from 0 above to - 1", b -> b.safe(0, -1, 0, 0));
        Whole.noIndex("to 12, D 10", b -> b.safe(0, 12, 10, 0));
    }

    private static void firstAboveOther() {
        Check.sentence(27, "the first PLACE is above the other one");
        TideBook dry = Check.coast("range 0 to 0");
        Check.same("both one, the first", 12, dry.safe(0, 0, 0, 0));
        Check.same("both one, the last", 12, dry.safe(11, 11, 0, 0));
        Check.same("one below the other", 12, dry.safe(4, 5, 0, 0));
        Whole.noArgument("one above the other", b -> b.safe(5, 4, 0, 0));
        Whole.noArgument("the last above the first", b -> b.safe(11, 0, 0, 0));
    }

    private static void safes() {
        Check.sentence(27, "SAFE: how many HOURS of a told TIDE (0 to 400) all PLACES from one to another one (both, too) have DEPTH D at most.");
        // WATER 12, 10, 8, 6, 4, 2, 0, 2, 4, 6, 8, 10
        TideBook book = Check.coast("range 12 to 12;ground 0 12;ground 1 12;ground 2 8;ground 3 12;ground 4 4");
        Check.same("dry land alone", 12, book.safe(0, 1, 0, 0));
        Check.same("with the lower one behind", 9, book.safe(0, 2, 0, 0));
        Check.same("with the lower one ahead", 9, book.safe(2, 3, 0, 0));
        Check.same("with the lower one between", 9, book.safe(1, 3, 0, 400));
        Check.same("with a still lower one", 5, book.safe(1, 4, 0, 0));
        Check.same("D 1 is not 2", 9, book.safe(1, 3, 1, 0));
        Check.same("just D 2", 11, book.safe(1, 3, 2, 0));
        Check.same("just D 4", 12, book.safe(1, 3, 4, 0));
        TideBook first = Check.coast("range 12 to 12;ground 1 19;ground 2 19;ground 9 19;ground 10 19");
        Check.same("the first PLACE of the row is the lowest", 1, first.safe(0, 2, 0, 0));
        Check.same("the last PLACE of the row is the lowest", 1, first.safe(9, 11, 0, 0));
        book.wind(1);
        Check.same("no HOUR", 0, book.safe(4, 5, 0, 0));
        Check.same("the flats alone by 1", 1, book.safe(5, 11, 1, 7));
        // TIDE 0 has RANGE 4, TIDE 1 none
        TideBook two = Check.coast("period 4;round 2;range 0 to 4");
        Check.same("its own HOURS alone", 1, two.safe(0, 11, 0, 0));
        Check.same("its own HOURS alone", 4, two.safe(0, 11, 0, 1));
    }

    private static void windAsItIs() {
        Check.sentence(25, "(WIND as it is, in all HOURS.)");
        TideBook book = Check.coast(FLATS + ";storm 100");
        book.wind(2);
        // 14, 12, 10, 8, 6, 4, 2, 4
        Check.same("way", 6, book.way(0, 1, 1, 4, 0));
        Check.same("dry", 0, book.dry(1, 30));
        Check.same("low", 366, book.low(30));
        Check.same("safe", 3, book.safe(0, 3, 4, 30));
        book.wind(-2);
        Check.same("way", 4, book.way(0, 1, 1, 4, 0));
        Check.same("dry", 3, book.dry(1, 30));
        Check.same("low", 365, book.low(30));
        Check.same("safe", 7, book.safe(0, 3, 4, 30));
        Check.same("start", 371, book.start(0, 3, 3, 0, 30));
    }
}

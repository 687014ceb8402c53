/** The edges of promises 7 to 13: what is asked of grounds, monks, duties, water and the book. */
public final class Edge4AskedTest {
    private static final int[] FAR = {Integer.MIN_VALUE, Integer.MAX_VALUE};

    public static void main(String[] args) {
        noSuchPlace();
        monkWhats();
        anotherMonkWhat();
        noSuchMonk();
        dutyWhats();
        anotherDutyWhat();
        noSuchDuty();
        rangeTides();
        ranges();
        waterHours();
        tideAndStep();
        waters();
        waterWithWind();
        depthHours();
        depths();
        printedTides();
        printed();
        Check.finish();
    }

    private static void noSuchPlace() {
        Check.sentence(7, "PLACES 0 to 11 in a row, GROUND 0 to 19 of each (0 at first).");
        TideBook book = Check.coast("ground 0 19;ground 11 18");
        Check.same("ground(0)", 19, book.ground(0));
        Check.same("ground(1)", 0, book.ground(1));
        Check.same("ground(10)", 0, book.ground(10));
        Check.same("ground(11)", 18, book.ground(11));
        Check.sentence(7, "IndexOutOfBoundsException: there is no such PLACE, MONK, DUTY.");
        Whole.noIndex("ground(-1)", b -> b.ground(-1));
        Whole.noIndex("ground(12)", b -> b.ground(12));
        for (int place : FAR) {
            Whole.noIndex("ground(" + place + ")", b -> b.ground(place));
        }
    }

    private static void monkWhats() {
        Check.sentence(8, "Of a MONK what 0 the PLACE, 1 the GOAL, 2 PACE, 3 TIRED, 4 1 if DROWNED, 5 what it WADES, 6 1 if it WAITS, 7 what it TIRES by.");
        TideBook book = Check.coast("range 12 to 12;ground 2 19;monk 2 pace 3 goal 9;monk 4 pace 4");
        Check.rule(book, "wade 6 if place > 2;tire 5;wait if there");
        book.goal(1, 0);
        int[][] now = {{2, 9, 3, 0, 0, 1, 0, 5}, {4, 0, 4, 0, 0, 7, 0, 5}};
        for (int monk = 0; monk < 2; monk++) {
            for (int what = 0; what < 8; what++) {
                Check.same("monk(" + monk + ", " + what + ")", now[monk][what], book.monk(monk, what));
            }
        }
        // one who is DROWNED is told of, too: tired once, at its place, by the law
        TideBook wet = Check.coast("range 30 to 30;monk 4 pace 4");
        Check.rule(wet, "wade 6;tire 5;wait");
        wet.hours(2);
        int[] drowned = {4, 4, 4, 5, 1, 7, 1, 5};
        for (int what = 0; what < 8; what++) {
            Check.same("of one who is DROWNED, what " + what, drowned[what], wet.monk(0, what));
        }
    }

    private static void anotherMonkWhat() {
        Check.sentence(8, "NoSuchElementException: another what.");
        Whole.noElement("monk(0, -1)", b -> b.monk(0, -1));
        Whole.noElement("monk(2, 8)", b -> b.monk(2, 8));
        for (int what : FAR) {
            Whole.noElement("monk(1, " + what + ")", b -> b.monk(1, what));
        }
    }

    private static void noSuchMonk() {
        Check.sentence(8, "IndexOutOfBoundsException: there is no such PLACE, MONK, DUTY.");
        Whole.noIndex("monk(-1, 0)", b -> b.monk(-1, 0));
        Whole.noIndex("monk(3, 0)", b -> b.monk(3, 0));
        Whole.noIndex("monk(6, 7)", b -> b.monk(6, 7));
        for (int monk : FAR) {
            Whole.noIndex("monk(" + monk + ", 0)", b -> b.monk(monk, 0));
        }
        Check.sentence(8, "Of several exceptions the one told first is thrown");
        Whole.noIndex("monk(3, 8)", b -> b.monk(3, 8));
        Whole.noIndex("monk(-1, -1)", b -> b.monk(-1, -1));
    }

    private static void dutyWhats() {
        Check.sentence(9, "Of a DUTY what 0 its PLACE, 1 from, 2 to, 3 1 if KEPT.");
        TideBook book = Check.coast("range 0 to 0;monk 11 pace 1;duty 11 from 0 to 1;duty 0 from 998 to 999");
        int[][] want = {{11, 0, 1, 0}, {0, 998, 999, 0}};
        for (int duty = 0; duty < 2; duty++) {
            for (int what = 0; what < 4; what++) {
                Check.same("duty(" + duty + ", " + what + ")", want[duty][what], book.duty(duty, what));
            }
        }
        book.hours(1);
        Check.same("KEPT", 1, book.duty(0, 3));
        Check.same("not KEPT", 0, book.duty(1, 3));
    }

    private static void anotherDutyWhat() {
        Check.sentence(9, "NoSuchElementException: another what.");
        Whole.noElement("duty(0, -1)", b -> b.duty(0, -1));
        Whole.noElement("duty(2, 4)", b -> b.duty(2, 4));
        for (int what : FAR) {
            Whole.noElement("duty(1, " + what + ")", b -> b.duty(1, what));
        }
    }

    private static void noSuchDuty() {
        Check.sentence(9, "IndexOutOfBoundsException: there is no such PLACE, MONK, DUTY.");
        Whole.noIndex("duty(-1, 0)", b -> b.duty(-1, 0));
        Whole.noIndex("duty(3, 0)", b -> b.duty(3, 0));
        for (int duty : FAR) {
            Whole.noIndex("duty(" + duty + ", 0)", b -> b.duty(duty, 0));
        }
        Check.sentence(9, "Of several exceptions the one told first is thrown");
        Whole.noIndex("duty(3, 4)", b -> b.duty(3, 4));
        Whole.noIndex("duty(-1, -1)", b -> b.duty(-1, -1));
    }

    private static void rangeTides() {
        Check.sentence(10, "IllegalArgumentException: the TIDE is none (0 to 2499).");
        TideBook book = Check.coast("round 5;range 0 to 30");
        Check.same("range(0)", 30, book.range(0));
        // 2499 is 4 modulo 5: twice 4 is 3 away from 5
        Check.same("range(2499)", 18, book.range(2499));
        Whole.noArgument("range(-1)", b -> b.range(-1));
        Whole.noArgument("range(2500)", b -> b.range(2500));
        for (int tide : FAR) {
            Whole.noArgument("range(" + tide + ")", b -> b.range(tide));
        }
    }

    private static void ranges(TideBook book, int... want) {
        for (int tide = 0; tide < want.length; tide++) {
            Check.same("range(" + tide + ")", want[tide], book.range(tide));
        }
    }

    private static void ranges() {
        Check.sentence(10, "RANGE of a TIDE: k being TIDE modulo ROUND: NEAP, and SPRING less NEAP times how far twice k is from ROUND, by ROUND, rounded down.");
        // the least ROUND: twice 0 is 2 away, twice 1 is 0 away
        ranges(Check.coast("round 2;range 3 to 30"), 30, 3, 30, 3, 30);
        // an odd one is never 0 away: 27 * 1 / 3 = 9
        ranges(Check.coast("round 3;range 3 to 30"), 30, 12, 12, 30, 12, 12, 30);
        // rounded down: 26 * 1 / 3 = 8
        ranges(Check.coast("round 3;range 4 to 30"), 30, 12, 12, 30);
        // 2 away of 4: 5 / 2 = 2
        ranges(Check.coast("round 4;range 0 to 5"), 5, 2, 0, 2, 5, 2);
        // the greatest ROUND: 26 away of 28, 30 * 26 / 28 = 27
        TideBook most = Check.coast("round 28;range 0 to 30");
        Check.same("range(0)", 30, most.range(0));
        Check.same("range(1)", 27, most.range(1));
        Check.same("range(13)", 2, most.range(13));
        Check.same("range(14)", 0, most.range(14));
        Check.same("range(15)", 2, most.range(15));
        Check.same("range(27)", 27, most.range(27));
        Check.same("range(28)", 30, most.range(28));
        ranges(Check.coast("round 5;range 9 to 9"), 9, 9, 9, 9, 9, 9);
        ranges(Check.coast("round 5;range 0 to 0"), 0, 0, 0, 0, 0, 0);
    }

    private static void waterHours() {
        Check.sentence(11, "IllegalArgumentException: the HOUR is none (0 to 9999).");
        TideBook book = Check.coast("period 10;range 20 to 20");
        Check.same("water(0)", 20, book.water(0));
        // STEP 9: 8 away of 10
        Check.same("water(9999)", 16, book.water(9999));
        Whole.noArgument("water(-1)", b -> b.water(-1));
        Whole.noArgument("water(10000)", b -> b.water(10000));
        for (int hour : FAR) {
            Whole.noArgument("water(" + hour + ")", b -> b.water(hour));
        }
    }

    private static void tideAndStep() {
        Check.sentence(11, "TIDE of an HOUR: HOUR by PERIOD, rounded down; its STEP: what is left.");
        // ROUND 2: even TIDES have 20, odd ones 4; PERIOD 4: STEPS are 4, 2, 0, 2 away
        TideBook book = Check.coast("period 4;round 2;range 4 to 20");
        int[] want = {20, 10, 0, 10, 4, 2, 0, 2, 20, 10, 0, 10, 4};
        for (int hour = 0; hour < want.length; hour++) {
            Check.same("water(" + hour + ")", want[hour], book.water(hour));
        }
    }

    private static void waters() {
        Check.sentence(11, "WATER in an HOUR: RANGE of its TIDE times how far twice STEP is from PERIOD, by PERIOD, rounded down");
        // 5, 3, 1, 1, 3 away of 5: 9, 27 / 5, 9 / 5
        TideBook odd = Check.coast("period 5;range 9 to 9");
        int[] want = {9, 5, 1, 1, 5, 9};
        for (int hour = 0; hour < want.length; hour++) {
            Check.same("water(" + hour + ")", want[hour], odd.water(hour));
        }
        // the greatest PERIOD: 22 away of 24, 30 * 22 / 24 = 27
        TideBook most = Check.coast("period 24;range 30 to 30");
        int[] hours = {0, 1, 11, 12, 13, 23, 24};
        int[] waters = {30, 27, 2, 0, 2, 27, 30};
        for (int i = 0; i < hours.length; i++) {
            Check.same("water(" + hours[i] + ")", waters[i], most.water(hours[i]));
        }
        Check.same("of RANGE 0", 0, Check.coast("range 0 to 0").water(0));
    }

    private static void waterWithWind() {
        Check.sentence(11, "and WIND (- 5 to 5, 0 at first; 0 at least then)");
        // 10, 5, 0, 5
        TideBook book = Check.coast("period 4;range 10 to 10");
        book.wind(-5);
        int[] low = {5, 0, 0, 0};
        for (int hour = 0; hour < 4; hour++) {
            Check.same("water(" + hour + ") by WIND - 5", low[hour], book.water(hour));
        }
        book.wind(-4);
        Check.same("water(1) by WIND - 4", 1, book.water(1));
        Check.same("water(2) by WIND - 4", 0, book.water(2));
        book.wind(5);
        int[] high = {15, 10, 5, 10};
        for (int hour = 0; hour < 4; hour++) {
            Check.same("water(" + hour + ") by WIND 5", high[hour], book.water(hour));
        }
    }

    private static void depthHours() {
        Check.sentence(12, "IllegalArgumentException: the HOUR is none.");
        TideBook book = Check.coast("period 10;range 20 to 20;ground 0 1;ground 11 2");
        Check.same("depth(0, 0)", 19, book.depth(0, 0));
        Check.same("depth(11, 9999)", 14, book.depth(11, 9999));
        Whole.noArgument("depth(0, -1)", b -> b.depth(0, -1));
        Whole.noArgument("depth(11, 10000)", b -> b.depth(11, 10000));
        for (int hour : FAR) {
            Whole.noArgument("depth(5, " + hour + ")", b -> b.depth(5, hour));
        }
        Check.sentence(12, "IndexOutOfBoundsException: there is no such PLACE, MONK, DUTY.");
        Whole.noIndex("depth(-1, 0)", b -> b.depth(-1, 0));
        Whole.noIndex("depth(12, 9999)", b -> b.depth(12, 9999));
        for (int place : FAR) {
            Whole.noIndex("depth(" + place + ", 5)", b -> b.depth(place, 5));
        }
        Check.sentence(12, "Of several exceptions the one told first is thrown");
        Whole.noIndex("depth(-1, -1)", b -> b.depth(-1, -1));
        Whole.noIndex("depth(12, 10000)", b -> b.depth(12, 10000));
    }

    private static void depths() {
        Check.sentence(12, "DEPTH at a PLACE in an HOUR: WATER less GROUND (0 at least).");
        TideBook book = Check.coast("range 12 to 12;ground 1 1;ground 2 11;ground 3 12;ground 4 13;ground 5 19");
        int[] want = {12, 11, 1, 0, 0, 0, 12};
        for (int place = 0; place < want.length; place++) {
            Check.same("depth(" + place + ", 0)", want[place], book.depth(place, 0));
        }
        book.wind(1);
        Check.same("depth(3, 0) by WIND 1", 1, book.depth(3, 0));
        Check.same("depth(4, 0) by WIND 1", 0, book.depth(4, 0));
        book.wind(-5);
        Check.same("depth(0, 6) by WIND - 5", 0, book.depth(0, 6));
    }

    private static void printedTides() {
        Check.sentence(13, "IllegalArgumentException: the TIDE is none (0 to 11).");
        TideBook book = new TideBook();
        Check.same("printed(0)", 0, book.printed(0));
        Check.same("printed(11)", 132, book.printed(11));
        Whole.noArgument("printed(-1)", b -> b.printed(-1));
        Whole.noArgument("printed(12)", b -> b.printed(12));
        for (int tide : FAR) {
            Whole.noArgument("printed(" + tide + ")", b -> b.printed(tide));
        }
    }

    private static void printed() {
        Check.sentence(13, "PRINTED of a TIDE (0 to 11): PERIOD times TIDE, and EDITION, and its ERROR (it may be below 0).");
        TideBook book = Check.coast("period 4;edition less 3;error 0 less 3;error 1 less 3;error 11 more 3");
        Check.same("the least", -6, book.printed(0));
        Check.same("still below 0", -2, book.printed(1));
        Check.same("TIDE 2", 5, book.printed(2));
        Check.same("TIDE 11", 44, book.printed(11));
        TideBook most = Check.coast("period 24;edition more 3;error 11 more 3");
        Check.same("the greatest", 270, most.printed(11));
        Check.same("TIDE 10", 243, most.printed(10));
        book.wind(5);
        Check.same("whatever the WIND is", -6, book.printed(0));
    }
}

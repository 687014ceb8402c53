/** Ranges, water, depths, high and low water, dry hours, springs and neaps, risk. */
public final class WaterTest {
    public static void main(String[] args) {
        ranges();
        waters();
        depths();
        highs();
        lows();
        dries();
        highests();
        neaps();
        risks();
        Check.finish();
    }

    private static void ranges() {
        Check.promise(10);
        // round 3: k = 0, 1, 2 are 3, 1, 1 away from it; 20 * 1 / 3 = 6
        TideBook book = Check.coast("round 3;range 5 to 25");
        int[] want = {25, 11, 11, 25, 11, 11};
        for (int tide = 0; tide < want.length; tide++) {
            Check.same("range(" + tide + ")", want[tide], book.range(tide));
        }
        Check.same("range(2499)", 25, book.range(2499));
        Check.same("range(2498)", 11, book.range(2498));
        Check.noArgument("range(2500)", () -> book.range(2500));
        Check.noArgument("range(-1)", () -> book.range(-1));
        TideBook flat = Check.coast("round 2;range 7 to 7");
        Check.same("spring is neap", 7, flat.range(1));
        TideBook two = Check.coast("round 2;range 0 to 30");
        Check.same("range(0)", 30, two.range(0));
        Check.same("range(1)", 0, two.range(1));
    }

    private static void waters() {
        Check.promise(11);
        // period 5, range 12 in tide 0: steps are 5, 3, 1, 1, 3 away
        TideBook book = Check.coast("period 5;range 12 to 12");
        int[] want = {12, 7, 2, 2, 7};
        for (int hour = 0; hour < 10; hour++) {
            Check.same("water(" + hour + ")", want[hour % 5], book.water(hour));
        }
        book.wind(-4);
        Check.same("water(1) by wind", 3, book.water(1));
        Check.same("water(2) is 0 at least", 0, book.water(2));
        book.wind(5);
        Check.same("water(2) by wind", 7, book.water(2));
        Check.same("water(9999)", 12, book.water(9999));
        Check.noArgument("water(10000)", () -> book.water(10000));
        Check.noArgument("water(-1)", () -> book.water(-1));
    }

    private static void depths() {
        Check.promise(12);
        TideBook book = Check.coast("ground 1 5;ground 2 19;range 12 to 12");
        Check.same("depth(0, 0)", 12, book.depth(0, 0));
        Check.same("depth(1, 0)", 7, book.depth(1, 0));
        Check.same("depth(2, 0)", 0, book.depth(2, 0));
        Check.same("depth(1, 3)", 1, book.depth(1, 3));
        book.wind(-5);
        Check.same("depth(1, 3) by wind", 0, book.depth(1, 3));
        Check.same("depth(0, 3) by wind", 1, book.depth(0, 3));
        Check.same("depth(0, 9999)", 1, book.depth(0, 9999));
        Check.noArgument("depth(0, 10000)", () -> book.depth(0, 10000));
        Check.noArgument("depth(0, -1)", () -> book.depth(0, -1));
        Check.noIndex("depth(12, 0)", () -> book.depth(12, 0));
        Check.noIndex("depth(-1, -1)", () -> book.depth(-1, -1));
    }

    private static void highs() {
        Check.promise(21);
        TideBook book = Check.coast("period 7");
        Check.same("high(0)", 0, book.high(0));
        Check.same("high(1)", 7, book.high(1));
        Check.same("high(7)", 7, book.high(7));
        Check.same("high(9996)", 9996, book.high(9996));
        Check.same("high(9999)", 10003, book.high(9999));
        Check.noArgument("high(10000)", () -> book.high(10000));
        Check.noArgument("high(-1)", () -> book.high(-1));
    }

    private static void lows() {
        Check.promise(22);
        TideBook even = Check.coast("period 10;range 12 to 12");
        Check.same("low(3)", 35, even.low(3));
        TideBook odd = Check.coast("period 5;range 12 to 12");
        Check.same("the first of two", 2, odd.low(0));
        Check.same("low(400)", 2002, odd.low(400));
        odd.wind(-5);
        Check.same("by wind", 2, odd.low(0));
        Check.noArgument("low(401)", () -> odd.low(401));
        Check.noArgument("low(-1)", () -> odd.low(-1));
        TideBook none = Check.coast("range 0 to 0");
        Check.same("without any water", 24, none.low(2));
        even.wind(-5);
        // 12, 9, 7, 4, 2, 0 less 5: the first 0 is in step 3
        Check.same("more hours with none", 3, even.low(0));
    }

    private static void dries() {
        Check.promise(23);
        // 12, 10, 8, 6, 4, 2, 0, 2, 4, 6, 8, 10
        TideBook book = Check.coast("range 12 to 12;ground 1 4;ground 2 12;ground 3 11");
        Check.same("dry(0, 0)", 1, book.dry(0, 0));
        Check.same("dry(1, 0)", 5, book.dry(1, 0));
        Check.same("dry(2, 400)", 12, book.dry(2, 400));
        Check.same("dry(3, 7)", 11, book.dry(3, 7));
        book.wind(2);
        Check.same("dry(0, 0) by wind", 0, book.dry(0, 0));
        Check.same("dry(1, 0) by wind", 3, book.dry(1, 0));
        book.wind(-2);
        Check.same("dry(0, 0) by wind", 3, book.dry(0, 0));
        Check.noArgument("dry(0, 401)", () -> book.dry(0, 401));
        Check.noArgument("dry(0, -1)", () -> book.dry(0, -1));
        Check.noIndex("dry(12, 401)", () -> book.dry(12, 401));
        Check.noIndex("dry(-1, 0)", () -> book.dry(-1, 0));
    }

    private static void highests() {
        Check.promise(24);
        TideBook book = Check.coast("round 5;range 0 to 30");
        // 30, 18, 6, 6, 18
        Check.same("highest(0)", 0, book.highest(0));
        Check.same("highest(1)", 5, book.highest(1));
        Check.same("highest(5)", 5, book.highest(5));
        Check.same("highest(400)", 400, book.highest(400));
        Check.same("highest(399)", 400, book.highest(399));
        Check.noArgument("highest(401)", () -> book.highest(401));
        Check.noArgument("highest(-1)", () -> book.highest(-1));
        TideBook flat = Check.coast("range 9 to 9");
        Check.same("of several the first", 3, flat.highest(3));
        // round 28, range 0 to 5: 28, 26, 24 .. by 28: k = 27 has 4, k = 0 has 5
        TideBook slow = Check.coast("round 28;range 0 to 5");
        Check.same("not further than the round", 28, slow.highest(1));
    }

    private static void neaps() {
        Check.promise(36);
        Check.same("of a new one", 1 << 6 | 1 << 7 | 1 << 8, new TideBook().neaps());
        Check.same("spring is neap", 4095, Check.coast("range 4 to 4").neaps());
        Check.same("round 2", 0b101010101010, Check.coast("round 2;range 3 to 4").neaps());
        // 1 * x / 3 is 0 for k = 1 and 2
        Check.same("round 3", 0b110110110110, Check.coast("round 3;range 3 to 5").neaps());
        Check.same("round 3, wide", 0, Check.coast("round 3;range 3 to 30").neaps());
    }

    private static void risks() {
        Check.promise(43);
        TideBook book = Check.coast("range 12 to 12;ground 1 4");
        // hour 3: still water 6; winds bring 1 to 11
        Check.same("deeper than 0 on 0", 11, book.risk(0, 3, 0));
        Check.same("deeper than 1 on 0", 10, book.risk(0, 3, 1));
        Check.same("deeper than 0 on 4", 7, book.risk(1, 3, 0));
        Check.same("deeper than 9 on 4", 0, book.risk(1, 3, 9));
        Check.same("hour 6", 5, book.risk(0, 6, 0));
        book.wind(5);
        Check.same("whatever the wind is", 10, book.risk(0, 3, 1));
        Check.same("hour 9999", 10, book.risk(0, 9999, 1));
        Check.same("hour 0", 11, book.risk(0, 0, 0));
        Check.same("depth 9", 8, book.risk(0, 0, 9));
        Check.noIndex("place 12", () -> book.risk(12, 0, 0));
        Check.noIndex("place -1", () -> book.risk(-1, -1, -1));
        Check.noArgument("hour 10000", () -> book.risk(0, 10000, 0));
        Check.noArgument("hour -1", () -> book.risk(0, -1, 0));
        Check.noArgument("depth 10", () -> book.risk(0, 0, 10));
        Check.noArgument("depth -1", () -> book.risk(0, 0, -1));
    }
}

/** Odds of storms, trials, spans and the seed. */
public final class ChanceTest {
    public static void main(String[] args) {
        odds();
        trials();
        spans();
        seeds();
        Check.finish();
    }

    private static void odds() {
        Check.promise(42);
        TideBook book = Check.coast("storm 30");
        Check.same("odds(0, 0)", 10000, book.odds(0, 0));
        Check.same("odds(0, 1)", 0, book.odds(0, 1));
        Check.same("odds(1, 1)", 3000, book.odds(1, 1));
        Check.same("odds(2, 1)", 5100, book.odds(2, 1));
        Check.same("odds(2, 2)", 900, book.odds(2, 2));
        // 3 * 9 * 7 + 27 of 1000
        Check.same("odds(3, 2)", 2160, book.odds(3, 2));
        // 6 * 9 * 49 + 4 * 27 * 7 + 81 of 10000
        Check.same("odds(4, 2)", 3483, book.odds(4, 2));
        // 0.3 to the 6th is 0.000729
        Check.same("rounded down", 7, book.odds(6, 6));
        Check.same("odds(6, 0)", 10000, book.odds(6, 0));
        Check.same("more storms than tides", 0, book.odds(5, 6));
        Check.same("of no storm", 0, new TideBook().odds(6, 1));
        Check.same("of no storm, none", 10000, new TideBook().odds(6, 0));
        Check.same("of storm 100", 10000, Check.coast("storm 100").odds(6, 6));
        Check.same("of storm 99", 9414, Check.coast("storm 99").odds(6, 6));
        Check.noArgument("odds(7, 0)", () -> book.odds(7, 0));
        Check.noArgument("odds(-1, 0)", () -> book.odds(-1, 0));
        Check.noArgument("odds(0, 7)", () -> book.odds(0, 7));
        Check.noArgument("odds(0, -1)", () -> book.odds(0, -1));
    }

    /** One monk who can set out by a wind below 1 alone; it drowns by one of 5. */
    private static TideBook windy() {
        return Check.coast("storm 100;period 4;range 0 to 0;monk 0 pace 1 goal 3;monk 3 pace 1;duty 1 from 0 to 99;"
                + "duty 2 from 4 to 99;duty 5 from 0 to 9;ground 0 19");
    }

    private static void trials() {
        Check.promise(44);
        TideBook book = windy();
        // winds of tides 0, 1, 2 from seed 1: 0, -2, 1 (5758, 17515, 5627 modulo 11, less 5)
        Check.same("no hour", 0, book.trial(0, false));
        Check.same("one hour", 1, book.trial(1, false));
        Check.same("two hours", 1, book.trial(2, false));
        Check.same("ten hours", 1, book.trial(10, false));
        Check.same("nothing stays", 0, book.count(4));
        Check.same("nor is anything kept", 0, book.count(12));
        Check.same("the seed is as it was", 1, book.seed(1));
        book.hours(1);
        Check.same("kept in it alone", 0, book.trial(10, false));
        Check.same("acts", 1, book.count(15));
        Check.noArgument("trial(101, true)", () -> book.trial(101, true));
        Check.noArgument("trial(-1, false)", () -> book.trial(-1, false));

        // hour 1 is 10 deep; wind comes on top
        TideBook wet = Check.coast("storm 50;monk 0 pace 1;ground 3 7;ground 4 19;monk 3 pace 1;monk 4 pace 1");
        Check.same("drowned", 0b001, wet.trial(1, true));
        Check.same("as the hours go", drownedThen(wet, 50), wet.trial(50, true));
        wet.hours(1);
        Check.same("who is drowned now is, too", 0b001, wet.trial(0, true));
        for (int seed = -3; seed < 40; seed++) {
            wet.seed(seed * 99991);
            Check.same("as the hours go by seed " + seed, drownedThen(wet, 100), wet.trial(100, true));
        }
    }

    private static int drownedThen(TideBook book, int hours) {
        book.hours(hours);
        int then = book.count(13);
        book.undo();
        return then;
    }

    private static void spans() {
        Check.promise(45);
        TideBook book = Check.coast("storm 100;period 4;range 0 to 0;monk 0 pace 1 goal 3;duty 1 from 0 to 0;"
                + "duty 2 from 0 to 1;duty 3 from 4 to 9;ground 0 19;ground 1 2;ground 2 3");
        book.seed(77);
        int fewest = 9;
        int most = 0;
        for (int seed = 1; seed <= 6; seed++) {
            book.seed(seed);
            int kept = book.trial(8, false);
            fewest = Math.min(fewest, kept);
            most = Math.max(most, kept);
        }
        book.seed(77);
        Check.same("the fewest", fewest, book.span(8, false));
        Check.same("the most", most, book.span(8, true));
        Check.yes("these are unlike here", fewest < most);
        Check.same("the seed is as it was", 77, book.seed(1));
        Check.same("nothing stays", 0, book.count(4));
        Check.same("no hour", 0, book.span(0, true));
        Check.same("no hour", 0, book.span(0, false));
        oneSeedAlone();
        TideBook sure = Check.coast("range 0 to 0;monk 0 pace 1;duty 0 from 0 to 9;duty 0 from 50 to 99;duty 1 from 0 to 9");
        Check.same("without storms the fewest", 2, sure.span(100, false));
        Check.same("are the most", 2, sure.span(100, true));
        TideBook all = Check.coast("range 0 to 0;monk 0 pace 1;duty 0 from 0 to 9;duty 0 from 0 to 9;duty 0 from 0 to 9;"
                + "duty 0 from 0 to 9;duty 0 from 0 to 9;duty 0 from 0 to 9");
        Check.same("all six", 6, all.span(1, false));
        all.hours(1);
        Check.same("kept already", 0, all.span(1, true));
        Check.noArgument("span(101, true)", () -> book.span(101, true));
        Check.noArgument("span(-1, false)", () -> book.span(-1, false));
    }

    /** A monk who sets out in this hour alone, and keeps the duty beside if the wind lets it. */
    private static TideBook setsOut(int hour, int ground) {
        TideBook book = Check.coast("storm 100;period 4;range 5 to 5;ground 0 19;monk 0 pace 1 goal 1;ground 1 " + ground
                + ";duty 1 from " + hour + " to " + hour);
        Check.rule(book, "wait if hour < " + hour);
        return book;
    }

    private static void oneSeedAlone() {
        // in hour 16 the winds of seeds 1 to 6 are 0, -1, -2, -3, -3, -4
        Check.same("seed 1 alone misses it", 0, setsOut(16, 3).span(17, false));
        Check.same("the others do not", 1, setsOut(16, 3).span(17, true));
        Check.same("none misses it", 1, setsOut(16, 4).span(17, false));
        Check.same("seed 6 alone keeps it", 1, setsOut(16, 0).span(17, true));
        Check.same("the others do not", 0, setsOut(16, 0).span(17, false));
        // in hour 8 they are 1, -3, -5, 3, -1, -3; those of seeds 0 and 7 are 4 and 5
        Check.same("seeds 0 and 7 do not count", 1, setsOut(8, 7).span(9, false));
        Check.same("seed 4 misses it", 0, setsOut(8, 6).span(9, false));
    }

    private static void seeds() {
        Check.promise(48);
        TideBook book = Check.coast("storm 100");
        Check.same("at first", 1, book.seed(Integer.MIN_VALUE));
        Check.same("what it was", Integer.MIN_VALUE, book.seed(-7));
        Check.same("what it was", -7, book.seed(1));
        book.hours(1);
        int once = 1103515245 * 1 + 12345;
        int twice = 1103515245 * once + 12345;
        Check.same("two draws", twice, book.seed(5));
        Check.same("it is no act", 1, book.count(15));
        book.undo();
        Check.same("undone with the hours", 1, book.seed(1));
        TideBook calm = new TideBook();
        calm.hours(1);
        Check.same("one draw without a storm", once, calm.seed(once));
        calm.hours(11);
        Check.same("none until step 0", once, calm.seed(once));
        calm.hours(1);
        Check.same("one more", twice, calm.seed(0));
    }
}

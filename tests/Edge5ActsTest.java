/** The edges of promises 14 to 20: acts, and hours that go by. */
public final class Edge5ActsTest {
    private static final int[] FAR = {Integer.MIN_VALUE, Integer.MAX_VALUE};

    public static void main(String[] args) {
        goals();
        goalOfADrowned();
        rests();
        restOfADrowned();
        errors();
        wrongErrors();
        editions();
        winds();
        anews();
        hoursBounds();
        keptByThese();
        windDrawn();
        windsAtStep0();
        drawsGoRound();
        waitsOrIsThere();
        asManyAsPace();
        asDeepAsItWades();
        wadesToldOnce();
        tires();
        dutyHours();
        dutyByWhom();
        lastHour();
        drowns();
        drownsByThen();
        drownedNoMore();
        Check.finish();
    }

    private static void goals() {
        Check.sentence(14, "A GOAL is told: what it was.");
        TideBook book = Check.coast("range 0 to 0;monk 5 pace 1;monk 6 pace 1 goal 7");
        Check.same("at first the PLACE", 5, book.goal(0, 0));
        Check.same("0", 0, book.monk(0, 1));
        Check.same("the first PLACE", 0, book.goal(0, 11));
        Check.same("the last PLACE", 11, book.goal(0, 5));
        Check.same("where it is", 5, book.goal(0, 5));
        Check.same("the other one's", 7, book.goal(1, 6));
        Check.same("acts", 5, book.count(15));
        Check.sentence(14, "IndexOutOfBoundsException: there is no such PLACE, MONK, DUTY.");
        Whole.noIndex("goal(-1, 0)", b -> b.goal(-1, 0));
        Whole.noIndex("goal(3, 0)", b -> b.goal(3, 0));
        Whole.noIndex("goal(0, -1)", b -> b.goal(0, -1));
        Whole.noIndex("goal(0, 12)", b -> b.goal(0, 12));
        for (int far : FAR) {
            Whole.noIndex("goal(" + far + ", 0)", b -> b.goal(far, 0));
            Whole.noIndex("goal(0, " + far + ")", b -> b.goal(0, far));
        }
    }

    private static void goalOfADrowned() {
        Check.sentence(14, "IllegalStateException: the MONK is DROWNED.");
        Whole.noState("goal(2, 3)", b -> b.goal(2, 3));
        Whole.noState("goal(2, 5), where it is", b -> b.goal(2, 5));
        Check.sentence(14, "Of several exceptions the one told first is thrown");
        Whole.noIndex("goal(2, 12)", b -> b.goal(2, 12));
        Whole.noIndex("goal(2, -1)", b -> b.goal(2, -1));
    }

    private static void rests() {
        Check.sentence(15, "A MONK rests: TIRED that it was.");
        TideBook book = Check.coast("range 0 to 0;monk 5 pace 1;monk 6 pace 1");
        Check.rule(book, "tire 9 if monk > 0");
        book.hours(1);
        Check.same("of 0", 0, book.rest(0));
        Check.same("of 9", 9, book.rest(1));
        Check.same("TIRED then", 0, book.monk(1, 3));
        Check.same("of 0 again", 0, book.rest(1));
        Check.same("acts", 4, book.count(15));
        Check.sentence(15, "IndexOutOfBoundsException: there is no such PLACE, MONK, DUTY.");
        Whole.noIndex("rest(-1)", b -> b.rest(-1));
        Whole.noIndex("rest(3)", b -> b.rest(3));
        for (int far : FAR) {
            Whole.noIndex("rest(" + far + ")", b -> b.rest(far));
        }
    }

    private static void restOfADrowned() {
        Check.sentence(15, "IllegalStateException: it is DROWNED.");
        Whole.noState("rest(2)", b -> b.rest(2));
    }

    private static void errors() {
        Check.sentence(16, "An ERROR is told: PRINTED then.");
        TideBook book = Check.coast("edition less 3");
        Check.same("the first TIDE, the least", -6, book.error(0, -3));
        Check.same("the first TIDE, the greatest", 0, book.error(0, 3));
        Check.same("the last TIDE, the least", 126, book.error(11, -3));
        Check.same("the last TIDE, the greatest", 132, book.error(11, 3));
        Check.same("0", 9, book.error(1, 0));
        Check.same("printed(0)", 0, book.printed(0));
        Check.same("printed(10), not told", 117, book.printed(10));
        Check.same("acts", 5, book.count(15));
    }

    private static void wrongErrors() {
        Check.sentence(16, "IllegalArgumentException: the TIDE, or it, is none.");
        Whole.noArgument("error(-1, 0)", b -> b.error(-1, 0));
        Whole.noArgument("error(12, 0)", b -> b.error(12, 0));
        Whole.noArgument("error(0, -4)", b -> b.error(0, -4));
        Whole.noArgument("error(0, 4)", b -> b.error(0, 4));
        for (int far : FAR) {
            Whole.noArgument("error(" + far + ", 0)", b -> b.error(far, 0));
            Whole.noArgument("error(0, " + far + ")", b -> b.error(0, far));
        }
    }

    private static void editions() {
        Check.sentence(17, "EDITION is told: what it was.");
        TideBook book = new TideBook();
        Check.same("the least", 0, book.edition(-3));
        Check.same("count(10)", 0, book.count(10));
        Check.same("the greatest", -3, book.edition(3));
        Check.same("count(10)", 6, book.count(10));
        Check.same("as it is", 3, book.edition(3));
        Check.same("acts", 3, book.count(15));
        Check.sentence(17, "IllegalArgumentException: it is none.");
        Whole.noArgument("edition(-4)", b -> b.edition(-4));
        Whole.noArgument("edition(4)", b -> b.edition(4));
        for (int far : FAR) {
            Whole.noArgument("edition(" + far + ")", b -> b.edition(far));
        }
    }

    private static void winds() {
        Check.sentence(18, "WIND is told: what it was.");
        TideBook book = new TideBook();
        Check.same("the least", 0, book.wind(-5));
        Check.same("count(9)", 0, book.count(9));
        Check.same("the greatest", -5, book.wind(5));
        Check.same("count(9)", 10, book.count(9));
        Check.same("as it is", 5, book.wind(5));
        Check.same("acts", 3, book.count(15));
        Check.sentence(18, "IllegalArgumentException: it is none.");
        Whole.noArgument("wind(-6)", b -> b.wind(-6));
        Whole.noArgument("wind(6)", b -> b.wind(6));
        for (int far : FAR) {
            Whole.noArgument("wind(" + far + ")", b -> b.wind(far));
        }
    }

    private static void anews() {
        Check.sentence(19, "A DUTY is told anew: whether it was KEPT.");
        TideBook book = Check.coast("range 0 to 0;monk 5 pace 1;duty 5 from 0 to 1;duty 5 from 0 to 9;duty 6 from 0 to 9");
        Check.no("not KEPT yet", book.anew(0));
        book.hours(1);
        Check.yes("KEPT", book.anew(0));
        Check.no("not any more", book.anew(0));
        Check.same("the others as they were", 0b010, book.count(12));
        Check.no("the last one", book.anew(2));
        Check.same("acts", 5, book.count(15));
        Check.same("KEPT once more in its last HOUR", 1, book.hours(1));
        Check.yes("KEPT", book.anew(0));
        Check.same("but not behind it", 0, book.hours(5));
        Check.same("rows of the log stay", 3, book.count(14));
        Check.sentence(19, "IndexOutOfBoundsException: there is no such PLACE, MONK, DUTY.");
        Whole.noIndex("anew(-1)", b -> b.anew(-1));
        Whole.noIndex("anew(3)", b -> b.anew(3));
        for (int far : FAR) {
            Whole.noIndex("anew(" + far + ")", b -> b.anew(far));
        }
    }

    private static void hoursBounds() {
        Check.sentence(20, "So many HOURS more (1 to 100)");
        TideBook book = new TideBook();
        book.hours(1);
        Check.same("HOUR behind 1", 1, book.count(4));
        book.hours(100);
        Check.same("HOUR behind 101", 101, book.count(4));
        Check.same("acts", 2, book.count(15));
        Check.sentence(20, "IllegalArgumentException: they are none.");
        Whole.noArgument("hours(0)", b -> b.hours(0));
        Whole.noArgument("hours(-1)", b -> b.hours(-1));
        Whole.noArgument("hours(101)", b -> b.hours(101));
        for (int far : FAR) {
            Whole.noArgument("hours(" + far + ")", b -> b.hours(far));
        }
    }

    private static void keptByThese() {
        Check.sentence(20, "how many DUTIES were KEPT by these.");
        TideBook six = Check.coast("range 0 to 0;monk 5 pace 1;duty 5 from 0 to 0;duty 5 from 0 to 9;duty 5 from 1 to 1;duty 5 from 99 to 99;"
                + "duty 5 from 0 to 999;duty 5 from 100 to 100");
        Check.same("three in the first HOUR", 3, six.hours(1));
        Check.same("and two more in a hundred, each once", 3, six.hours(100));
        Check.same("none any more", 0, six.hours(100));
        TideBook all = Check.coast("range 0 to 0;monk 5 pace 1" + ";duty 5 from 0 to 9".repeat(6));
        Check.same("all six at once", 6, all.hours(1));
        Check.same("none without a MONK", 0, Check.coast("duty 5 from 0 to 9").hours(10));
    }

    private static void windDrawn() {
        Check.sentence(20, "(a) If STEP is 0: WIND is DRAW modulo 11, less 5, if DRAW modulo 100 is below STORM; else 0 (the second DRAW is made just if the first one is below).");
        for (int drawn : new int[] {0, 1, 50, 98, 99}) {
            for (int wind : new int[] {0, 5, 10}) {
                int seed = Draws.seedOf(drawn, wind);
                TideBook just = Check.coast("storm " + (drawn + 1));
                just.wind(3);
                just.seed(seed);
                just.hours(1);
                Check.same("WIND and 5, " + drawn + " being below " + (drawn + 1), wind, just.count(9));
                Check.same("two draws", Draws.after(seed, 2), just.seed(0));
                TideBook not = Check.coast("storm " + drawn);
                not.wind(3);
                not.seed(seed);
                not.hours(1);
                Check.same("WIND and 5, " + drawn + " not being below " + drawn, 5, not.count(9));
                Check.same("one draw", Draws.after(seed, 1), not.seed(0));
            }
        }
    }

    private static void windsAtStep0() {
        Check.sentence(20, "(a) If STEP is 0:");
        for (int period : new int[] {4, 24}) {
            TideBook book = Check.coast("storm 0;period " + period);
            book.hours(1);
            Check.same("one draw in STEP 0", Draws.after(1, 1), book.seed(7));
            book.wind(4);
            book.hours(period - 1);
            Check.same("WIND and 5 behind the other STEPS", 9, book.count(9));
            Check.same("and no draw", 7, book.seed(7));
            book.hours(1);
            Check.same("WIND and 5 behind STEP 0", 5, book.count(9));
            Check.same("and a draw", Draws.after(7, 1), book.seed(7));
            book.hours(2 * period);
            Check.same("two more in two TIDES", Draws.after(7, 2), book.seed(7));
        }
    }

    private static void drawsGoRound() {
        Check.sentence(20, "DRAW: SEED is 1103515245 times SEED and 12345, as an int that goes round; bits 16 to 30 (SEED 1 at first).");
        TideBook first = Check.coast("storm 100");
        first.hours(1);
        // 1103527590, and then 2524885223, which is this as an int; its bits 16 to 30 are 5758
        Check.same("SEED behind two draws", -1770082073, first.seed(0));
        Check.same("WIND and 5", 5758 % 11, first.count(9));
        for (int seed : new int[] {0, -1, 2, Integer.MIN_VALUE, Integer.MAX_VALUE, 1 << 16, -1103515245}) {
            TideBook book = Check.coast("storm 100");
            book.seed(seed);
            book.hours(1);
            Draws draws = new Draws(seed);
            draws.next();
            Check.same("WIND and 5 of seed " + seed, draws.next() % 11, book.count(9));
            Check.same("SEED of seed " + seed, draws.seed, book.seed(0));
        }
        // bit 31 is no bit of a draw: a seed that is below 0 behind its first draw, and one behind its second
        int below = 0;
        for (int seed = 1; seed < 40; seed++) {
            if (Draws.after(seed, 1) < 0 && Draws.after(seed, 2) < 0) {
                TideBook book = Check.coast("storm 100");
                book.seed(seed);
                book.hours(1);
                Check.same("WIND and 5 of seed " + seed, (Draws.after(seed, 2) >>> 16 & 0x7fff) % 11, book.count(9));
                below++;
            }
        }
        Check.yes("some seeds went below 0", below > 0);
    }

    private static void waitsOrIsThere() {
        Check.sentence(20, "(b) Each MONK, by numbers, not DROWNED: if it does not WAIT and is not at its GOAL: it goes");
        TideBook book = Check.coast("range 0 to 0;monk 3 pace 1 goal 9;monk 3 pace 4;monk 3 pace 1 goal 9");
        Check.rule(book, "wait if monk > 1 and hour < 1");
        book.hours(1);
        Check.same("one who goes", 4, book.monk(0, 0));
        Check.same("one who is there", 3, book.monk(1, 0));
        Check.same("one who waits", 3, book.monk(2, 0));
        book.hours(1);
        Check.same("and waits no more", 4, book.monk(2, 0));
    }

    private static void asManyAsPace() {
        Check.sentence(20, "it goes as many PLACES as PACE toward it, one by one");
        for (int pace = 1; pace <= 4; pace++) {
            TideBook book = Check.coast("range 0 to 0;monk 0 pace " + pace + " goal 11;monk 11 pace " + pace + " goal 0;monk 5 pace " + pace + " goal 6;"
                    + "monk 5 pace " + pace + " goal 4;monk 0 pace " + pace + " goal " + pace + ";monk 0 pace " + pace + " goal " + (pace + 1));
            book.hours(1);
            Check.same("up", pace, book.monk(0, 0));
            Check.same("down", 11 - pace, book.monk(1, 0));
            Check.same("not beyond its GOAL", 6, book.monk(2, 0));
            Check.same("not beyond its GOAL", 4, book.monk(3, 0));
            Check.same("just to its GOAL", pace, book.monk(4, 0));
            Check.same("one ahead of its GOAL", pace, book.monk(5, 0));
            book.hours(11);
            Check.same("the last PLACE", 11, book.monk(0, 0));
            Check.same("the first PLACE", 0, book.monk(1, 0));
            Check.same("its GOAL", pace + 1, book.monk(5, 0));
        }
    }

    private static void asDeepAsItWades() {
        Check.sentence(20, "as long as DEPTH at the next one is what it WADES at most");
        // WATER 12 in HOUR 0: GROUND 9 has DEPTH 3, GROUND 8 has 4, 19 none
        String coast = "range 12 to 12;ground 0 19;ground 1 9;ground 2 19;ground 3 8;ground 4 19;monk 0 pace 4 goal 4";
        TideBook three = Check.coast(coast);
        Check.rule(three, "wade 2");
        three.hours(1);
        Check.same("DEPTH 3 for one who WADES 3, DEPTH 4 is one more", 2, three.monk(0, 0));
        TideBook two = Check.coast(coast);
        Check.rule(two, "wade 1");
        two.hours(1);
        Check.same("DEPTH 3 for one who WADES 2", 0, two.monk(0, 0));
        TideBook four = Check.coast(coast);
        Check.rule(four, "wade 3");
        four.hours(1);
        Check.same("DEPTH 4 for one who WADES 4", 4, four.monk(0, 0));
        // by this HOUR's WATER, and the WIND of its (a): HOUR 1 has 10, so GROUND 9 is 1 deep then
        TideBook later = Check.coast(coast);
        later.hours(1);
        Check.same("too deep in HOUR 0", 0, later.monk(0, 0));
        later.hours(1);
        Check.same("not in HOUR 1", 2, later.monk(0, 0));
        TideBook wind = Check.coast(coast);
        wind.wind(-5);
        wind.hours(1);
        Check.same("the WIND that was told is gone in STEP 0", 0, wind.monk(0, 0));
        wind.wind(1);
        wind.hours(1);
        Check.same("but not in STEP 1", 0, wind.monk(0, 0));
        // one's own PLACE may be as deep as it likes
        TideBook own = Check.coast("range 4 to 4;ground 6 19;monk 5 pace 1 goal 6");
        own.hours(1);
        Check.same("off the flats", 6, own.monk(0, 0));
    }

    private static void wadesToldOnce() {
        Check.sentence(20, "(told once, ahead of its going)");
        String coast = "range 12 to 12;ground 0 19;ground 1 9;ground 2 9;ground 3 9;monk 0 pace 3 goal 3";
        TideBook less = Check.coast(coast);
        Check.rule(less, "wade 2 if place < 1");
        less.hours(1);
        Check.same("less at the PLACES that it comes to", 3, less.monk(0, 0));
        TideBook more = Check.coast("range 12 to 12;ground 0 19;ground 1 19;ground 2 9;monk 0 pace 2 goal 2");
        Check.rule(more, "wade 2 if place > 0");
        more.hours(1);
        Check.same("more at the PLACES that it comes to", 1, more.monk(0, 0));
        more.hours(1);
        Check.same("in the next HOUR", 2, more.monk(0, 0));
    }

    private static void tires() {
        Check.sentence(20, "Then TIRED is what it TIRES by more (9 at most).");
        TideBook book = Check.coast("range 0 to 0;monk 0 pace 1 goal 2;monk 5 pace 1;monk 5 pace 1 goal 6");
        Check.rule(book, "tire 4;wait if monk > 1");
        int[] want = {4, 8, 9, 9};
        for (int tired : want) {
            book.hours(1);
            for (int monk = 0; monk < 3; monk++) {
                Check.same("TIRED of " + monk + " (it goes, is there, waits)", tired, book.monk(monk, 3));
            }
        }
        TideBook eight = Check.coast("range 0 to 0;monk 0 pace 1");
        Check.rule(eight, "tire 8 if hour < 1;tire 1 if hour > 0");
        eight.hours(1);
        Check.same("8", 8, eight.monk(0, 3));
        eight.hours(1);
        Check.same("9", 9, eight.monk(0, 3));
        TideBook much = Check.coast("range 0 to 0;monk 0 pace 1");
        Check.rule(much, "tire 9;tire 9");
        much.hours(1);
        Check.same("18 at once", 9, much.monk(0, 3));
        TideBook come = Check.coast("range 0 to 0;monk 0 pace 2 goal 2");
        Check.rule(come, "tire 3 if place > 1;tire 5 if there");
        come.hours(1);
        Check.same("then: where it has come to", 8, come.monk(0, 3));
        TideBook none = Check.coast("range 0 to 0;monk 0 pace 2 goal 2");
        none.hours(9);
        Check.same("without a law", 0, none.monk(0, 3));
    }

    private static void dutyHours() {
        Check.sentence(20, "(c) Each DUTY that is not KEPT, by numbers, whose HOURS have HOUR: KEPT");
        TideBook book = Check.coast("range 0 to 0;monk 5 pace 1;duty 5 from 3 to 3;duty 5 from 3 to 6;duty 5 from 0 to 2;duty 5 from 4 to 9");
        book.hours(1);
        book.anew(2);
        Check.same("HOUR 1 to 2", 1, book.hours(1));
        book.anew(2);
        Check.same("the last HOUR of 0 to 2", 1, book.hours(1));
        book.anew(2);
        Check.same("none yet of the others", 0, book.count(12));
        Check.same("HOUR 3, the first of two", 2, book.hours(1));
        Check.same("these", 0b0011, book.count(12));
        book.anew(0);
        book.anew(1);
        Check.same("HOUR 4", 2, book.hours(1));
        Check.same("the one of HOUR 3 is over", 0b1010, book.count(12));
        book.anew(1);
        book.hours(1);
        book.anew(1);
        Check.same("HOUR 6, its last", 1, book.hours(1));
        book.anew(1);
        Check.same("HOUR 7", 0, book.hours(1));
    }

    private static void dutyByWhom() {
        Check.sentence(20, "KEPT, if some MONK, not DROWNED, is at its PLACE.");
        TideBook comes = Check.coast("range 0 to 0;monk 0 pace 2 goal 4;duty 0 from 0 to 9;duty 1 from 0 to 9;duty 2 from 0 to 9;duty 4 from 0 to 0;duty 4 from 0 to 1");
        comes.hours(1);
        Check.same("where it has come to, not where it was, nor between", 0b00100, comes.count(12));
        comes.hours(1);
        Check.same("in the next HOUR", 0b10100, comes.count(12));
        TideBook two = Check.coast("range 0 to 0;monk 5 pace 1;monk 5 pace 1;duty 5 from 0 to 9");
        Check.same("two MONKS keep it once", 1, two.hours(9));
        Check.same("one row", 1, two.count(14));
        TideBook last = Check.coast("range 0 to 0;monk 0 pace 1;monk 0 pace 1;monk 0 pace 1;monk 0 pace 1;monk 0 pace 1;monk 11 pace 1;duty 11 from 0 to 9");
        Check.same("the last MONK, the last PLACE", 1, last.hours(1));
        // at PLACE 0, where there is none
        Check.same("without MONKS", 0, Check.coast("range 0 to 0;duty 0 from 0 to 9").hours(9));
        Check.same("one MONK, elsewhere", 0, Check.coast("range 0 to 0;monk 1 pace 1;duty 0 from 0 to 9").hours(9));
        Check.same("six MONKS, elsewhere", 0, Check.coast("range 0 to 0;monk 1 pace 1" + ";monk 11 pace 1".repeat(5) + ";duty 0 from 0 to 9").hours(9));
        TideBook wet = Check.coast("monk 5 pace 1;duty 5 from 0 to 0;duty 5 from 1 to 99");
        Check.same("by one who drowns at the end of the HOUR", 1, wet.hours(1));
        Check.same("it is DROWNED", 1, wet.count(13));
        Check.same("and keeps none any more", 0, wet.hours(99));
    }

    private static TideBook late(String coast) {
        TideBook book = Check.coast(coast);
        for (int i = 0; i < 99; i++) {
            book.hours(100);
        }
        book.hours(98);
        return book;
    }

    private static void lastHour() {
        Check.sentence(20, "(d) HOUR is 1 more (9999 at most).");
        TideBook book = late("range 0 to 0;monk 0 pace 1");
        Check.same("HOUR", 9998, book.count(4));
        book.hours(1);
        Check.same("1 more", 9999, book.count(4));
        book.goal(0, 5);
        book.hours(1);
        Check.same("at most", 9999, book.count(4));
        Check.same("one goes on", 1, book.monk(0, 0));
        book.hours(100);
        Check.same("at most", 9999, book.count(4));
        Check.same("as far as one likes", 5, book.monk(0, 0));
        // 9999 is 3 modulo 12: no WIND is drawn
        int seed = book.seed(5);
        book.hours(10);
        Check.same("no draws in its STEP", 5, book.seed(seed));
        // 9999 is 0 modulo 9: WIND is drawn in each HOUR of it
        TideBook nine = late("period 9;storm 0");
        nine.hours(1);
        nine.seed(5);
        nine.hours(10);
        Check.same("ten draws in STEP 0", Draws.after(5, 10), nine.seed(0));
        // the HOUR is the same then, and one drowns by its DEPTH: STEP 0 of PERIOD 9 has WATER 12
        TideBook wet = late("period 9;range 12 to 12;monk 0 pace 4;ground 0 19");
        wet.hours(1);
        Check.same("not yet DROWNED", 0, wet.count(13));
        wet.goal(0, 1);
        Check.rule(wet, "wade 9;wade 1");
        wet.hours(1);
        Check.same("12 is too deep to go", 0, wet.monk(0, 0));
        Check.rule(wet, "wade 9;wade 2 if place < 1");
        wet.hours(1);
        Check.same("12 for one who WADES 12", 1, wet.monk(0, 0));
        Check.same("not DROWNED: 12 is 2 above 10", 0, wet.count(13));
        Check.rule(wet, "wade 7");
        wet.hours(1);
        Check.same("DROWNED: 12 is 4 above 8", 1, wet.count(13));
        Check.same("in HOUR", 9999, wet.log(0, 0));
    }

    private static void drowns() {
        Check.sentence(20, "(e) Each MONK, not DROWNED, at whose PLACE DEPTH is then more than 3 above what it WADES then: DROWNED.");
        // WATER 10 in HOUR 1: GROUNDS 5, 6, 7 have DEPTH 5, 4, 3
        TideBook book = Check.coast("range 12 to 12;ground 1 5;ground 2 6;ground 3 7;monk 1 pace 1;monk 2 pace 1;monk 3 pace 1;monk 0 pace 1");
        book.hours(1);
        Check.same("4 above 1 drowns, 3 above 1 does not", 0b1001, book.count(13));
        TideBook wader = Check.coast("range 12 to 12;ground 1 5;monk 1 pace 1;monk 0 pace 1;monk 0 pace 1");
        Check.rule(wader, "wade 1;wade 4 if monk > 0;wade 1 if monk > 1");
        wader.hours(1);
        Check.same("5 is 3 above 2, 10 is 4 above 6, and 3 above 7", 0b010, wader.count(13));
        // it is where it has come to
        TideBook comes = Check.coast("range 12 to 12;ground 0 6;ground 1 19;monk 0 pace 1 goal 1");
        comes.hours(1);
        Check.same("one who came off in time", 0, comes.count(13));
        TideBook stays = Check.coast("range 12 to 12;ground 0 5;monk 0 pace 1");
        stays.hours(1);
        Check.same("one who did not", 1, stays.count(13));
    }

    private static void drownsByThen() {
        Check.sentence(20, "DEPTH is then more than 3 above what it WADES then");
        // HOUR 11 has WATER 10, HOUR 12 has 12: on GROUND 7 it is 3, then 5 deep
        TideBook book = Check.coast("range 12 to 12;ground 1 7;monk 1 pace 1");
        book.hours(11);
        Check.same("not in HOUR 11", 0, book.count(13));
        book.hours(1);
        Check.same("but in HOUR 12", 1, book.count(13));
        TideBook then = Check.coast("range 12 to 12;ground 1 7;monk 1 pace 1;monk 1 pace 1");
        Check.rule(then, "wade 1 if step < 1 and monk < 1;wade 1 if step > 10 and monk > 0");
        then.hours(12);
        Check.same("by what each WADES in HOUR 12", 0b10, then.count(13));
        // WIND is as it was drawn in (a) of the HOUR before: one who is 4 deep is 5 deep by WIND 1
        TideBook wind = Check.coast("range 12 to 12;ground 1 8;monk 1 pace 1");
        wind.hours(11);
        wind.wind(1);
        wind.hours(1);
        Check.same("by WIND 1", 1, wind.count(13));
        TideBook still = Check.coast("range 12 to 12;ground 1 8;monk 1 pace 1");
        still.hours(12);
        Check.same("by none", 0, still.count(13));
    }

    private static void drownedNoMore() {
        Check.sentence(20, "(b) Each MONK, by numbers, not DROWNED");
        TideBook book = Check.coast("range 12 to 12;monk 5 pace 4 goal 6");
        Check.rule(book, "tire 1");
        book.hours(1);
        Check.same("DROWNED", 1, book.count(13));
        book.hours(50);
        Check.same("it goes no more", 5, book.monk(0, 0));
        Check.same("nor tires", 1, book.monk(0, 3));
        Check.same("nor drowns again", 1, book.count(14));
    }
}

/** The edges of promises 37 to 45: who is stranded, what is ahead, what is lost, odds, risk, trials, spans. */
public final class Edge9AheadTest {
    private static final int[] FAR = {Integer.MIN_VALUE, Integer.MAX_VALUE};

    public static void main(String[] args) {
        strandedDry();
        strandedSides();
        strandedEnds();
        strandedBits();
        aheadBounds();
        aheadWithoutA();
        aheadHours();
        doomedBounds();
        doomed();
        doneBounds();
        done();
        lost();
        oddsBounds();
        odds();
        riskBounds();
        risk();
        trialBounds();
        trial();
        trialHowManyOrBits();
        trialNothingStays();
        spanBounds();
        span();
        spanSeeds();
        Check.finish();
    }

    private static void strandedDry() {
        Check.sentence(37, "STRANDED: MONKS, not DROWNED, whose PLACE has DEPTH 0 now");
        // WATER 6 in HOUR 0
        Check.same("GROUND 6 is dry", 1, Check.coast("range 6 to 6;ground 5 6;monk 5 pace 1").stranded());
        Check.same("GROUND 5 is not", 0, Check.coast("range 6 to 6;ground 5 5;monk 5 pace 1").stranded());
        TideBook wet = Check.coast("range 6 to 6;ground 5 6;monk 5 pace 1");
        wet.wind(1);
        Check.same("nor is 6 by WIND 1", 0, wet.stranded());
        // in HOUR 1 one who is in DEPTH 5 is DROWNED; by low WATER its PLACE is dry, but so is all beside
        TideBook drowned = Check.coast("range 6 to 6;ground 0 19;ground 2 19;ground 11 6;monk 11 pace 1;monk 5 pace 1");
        drowned.hours(1);
        Check.same("DROWNED", 0b10, drowned.count(13));
        drowned.hours(11);
        drowned.wind(-5);
        Check.same("HOUR 12, WATER 1", 1, drowned.water(12));
        Check.same("none: 1 is not more than one WADES", 0, drowned.stranded());
        TideBook bank = Check.coast("range 30 to 30;ground 5 19;monk 5 pace 1");
        bank.hours(1);
        Check.same("one on a bank is DROWNED, too", 1, bank.count(13));
        bank.hours(3);
        Check.same("WATER 10 in HOUR 4", 10, bank.water(4));
        Check.same("one who is DROWNED is not STRANDED", 0, bank.stranded());
    }

    private static void strandedSides() {
        Check.sentence(37, "and on both sides of it more than they WADE");
        // by WATER 6 GROUND 4 has DEPTH 2, GROUND 5 has 1
        Check.same("2 on both sides", 1, Check.coast("range 6 to 6;ground 4 4;ground 5 6;ground 6 4;monk 5 pace 1").stranded());
        Check.same("1 below it", 0, Check.coast("range 6 to 6;ground 4 5;ground 5 6;ground 6 4;monk 5 pace 1").stranded());
        Check.same("1 above it", 0, Check.coast("range 6 to 6;ground 4 4;ground 5 6;ground 6 5;monk 5 pace 1").stranded());
        Check.same("1 on both sides", 0, Check.coast("range 6 to 6;ground 4 5;ground 5 6;ground 6 5;monk 5 pace 1").stranded());
        // beside the ends of the row, which are dry land here
        Check.same("at 1, beside dry land at 0", 0, Check.coast("range 6 to 6;ground 0 6;ground 1 6;ground 2 0;monk 1 pace 1").stranded());
        Check.same("at 10, beside dry land at 11", 0, Check.coast("range 6 to 6;ground 11 6;ground 10 6;ground 9 0;monk 10 pace 1").stranded());
        TideBook wade = Check.coast("range 6 to 6;ground 4 4;ground 5 6;ground 6 3;monk 5 pace 1");
        Check.rule(wade, "wade 1");
        Check.same("just what one WADES on one side", 0, wade.stranded());
        TideBook more = Check.coast("range 6 to 6;ground 4 3;ground 5 6;ground 6 3;monk 5 pace 1");
        Check.rule(more, "wade 1");
        Check.same("3 for one who WADES 2", 1, more.stranded());
        Check.rule(more, "wade 2");
        Check.same("3 for one who WADES 3", 0, more.stranded());
    }

    private static void strandedEnds() {
        Check.sentence(37, "(the ends of the row count as deep)");
        Check.same("at 0", 1, Check.coast("range 6 to 6;ground 0 6;ground 1 4;monk 0 pace 1").stranded());
        Check.same("at 0, beside 1", 0, Check.coast("range 6 to 6;ground 0 6;ground 1 5;monk 0 pace 1").stranded());
        Check.same("at 11", 1, Check.coast("range 6 to 6;ground 11 6;ground 10 4;monk 11 pace 1").stranded());
        Check.same("at 11, beside 1", 0, Check.coast("range 6 to 6;ground 11 6;ground 10 5;monk 11 pace 1").stranded());
        TideBook wade = Check.coast("range 6 to 6;ground 0 6;ground 11 6;monk 0 pace 1;monk 11 pace 1");
        Check.rule(wade, "wade 4");
        Check.same("6 for one who WADES 5", 0b11, wade.stranded());
        Check.rule(wade, "wade 5");
        Check.same("6 for one who WADES 6", 0, wade.stranded());
    }

    private static void strandedBits() {
        Check.sentence(37, "STRANDED, as bits.");
        Check.same("of none", 0, new TideBook().stranded());
        TideBook six = Check.coast("range 6 to 6;ground 5 6;monk 5 pace 1;monk 5 pace 1;monk 5 pace 1;monk 5 pace 1;monk 5 pace 1;monk 5 pace 1");
        Check.same("all six", 0b111111, six.stranded());
        Check.rule(six, "wade 9 if monk < 5");
        Check.same("the last", 0b100000, six.stranded());
        Check.rule(six, "wade 9 if monk > 0");
        Check.same("the first", 0b000001, six.stranded());
    }

    private static void aheadBounds() {
        Check.sentence(38, "AHEAD by N HOURS (0 to 100): as so many HOURS without (a): WIND as it is.");
        // one goes in HOURS 3, 27, 51, 75 and 99 alone
        TideBook book = Check.coast("range 0 to 0;monk 3 pace 1 goal 9");
        Check.rule(book, "wait if not (step > 2 and step < 4 and hour > 2 and hour < 4)");
        Check.same("0 HOURS", 3, book.ahead(0, 0));
        Check.same("3 HOURS", 3, book.ahead(0, 3));
        Check.same("4 HOURS", 4, book.ahead(0, 4));
        Check.same("99 HOURS", 7, book.ahead(0, 99));
        Check.same("100 HOURS", 8, book.ahead(0, 100));
        Check.sentence(38, "IllegalArgumentException: N is none.");
        Whole.noArgument("ahead(0, -1)", b -> b.ahead(0, -1));
        Whole.noArgument("ahead(0, 101)", b -> b.ahead(0, 101));
        for (int far : FAR) {
            Whole.noArgument("ahead(0, " + far + ")", b -> b.ahead(0, far));
        }
        Check.sentence(38, "IndexOutOfBoundsException: there is no such PLACE, MONK, DUTY.");
        Whole.noIndex("ahead(-1, 0)", b -> b.ahead(-1, 0));
        Whole.noIndex("ahead(3, 0)", b -> b.ahead(3, 0));
        for (int far : FAR) {
            Whole.noIndex("ahead(" + far + ", 0)", b -> b.ahead(far, 0));
        }
        Check.sentence(38, "Of several exceptions the one told first is thrown");
        Whole.noIndex("ahead(3, 101)", b -> b.ahead(3, 101));
        Whole.noIndex("ahead(-1, -1)", b -> b.ahead(-1, -1));
    }

    private static void aheadWithoutA() {
        Check.sentence(38, "without (a): WIND as it is");
        TideBook book = Check.coast("range 0 to 0;ground 0 9;storm 100;monk 0 pace 1 goal 5");
        book.wind(2);
        Check.same("too deep by WIND 2, also behind STEP 0", 0, book.ahead(0, 100));
        book.wind(1);
        Check.same("not by WIND 1", 5, book.ahead(0, 5));
        Whole.leavesAll("nothing stays, SEED neither", Whole::rich, b -> b.ahead(0, 100));
    }

    private static void aheadHours() {
        Check.sentence(38, "AHEAD of a MONK: its PLACE.");
        TideBook book = Check.coast("range 0 to 0;monk 0 pace 1 goal 11;monk 11 pace 4 goal 0");
        Check.same("the first PLACE ahead", 1, book.ahead(0, 1));
        Check.same("the last PLACE ahead", 11, book.ahead(0, 11));
        Check.same("behind it", 11, book.ahead(0, 12));
        Check.same("the other one", 7, book.ahead(1, 1));
        Check.same("the other one", 0, book.ahead(1, 3));
        // DEPTH 1 at most beside the bank in HOUR 6 alone
        TideBook bank = Check.coast("range 12 to 12;ground 5 8;monk 5 pace 1 goal 4");
        Check.same("ahead of HOUR 6", 5, bank.ahead(0, 6));
        Check.same("behind it", 4, bank.ahead(0, 7));
        TideBook gone = Check.coast("range 12 to 12;ground 11 19;monk 5 pace 1 goal 11");
        Check.same("DROWNED at once", 5, gone.ahead(0, 100));
    }

    private static void doomedBounds() {
        Check.sentence(39, "IllegalArgumentException: N is none.");
        // DEPTH 5 by WIND 5; it WADES 6 until it has TIRED five times: in HOURS 3, 27, 51, 75 and 99
        TideBook book = Check.coast("range 0 to 0;monk 0 pace 1");
        Check.rule(book, "wade 5 if tired < 5;tire 1 if step > 2 and step < 4 and hour < 4");
        book.wind(5);
        Check.same("0 HOURS", 0, book.doomed(0));
        Check.same("99 HOURS", 0, book.doomed(99));
        Check.same("100 HOURS", 1, book.doomed(100));
        Whole.noArgument("doomed(-1)", b -> b.doomed(-1));
        Whole.noArgument("doomed(101)", b -> b.doomed(101));
        for (int far : FAR) {
            Whole.noArgument("doomed(" + far + ")", b -> b.doomed(far));
        }
    }

    private static void doomed() {
        Check.sentence(39, "DOOMED by N HOURS AHEAD: MONKS that are DROWNED then and are not now, as bits.");
        // by WATER 12, 10, .. 10, 12: GROUND 7 has DEPTH 5 in HOUR 12, GROUND 8 has 4
        TideBook book = Check.coast("range 12 to 12;ground 1 7;ground 2 8;monk 0 pace 1;monk 1 pace 1;monk 2 pace 1");
        Check.same("0 HOURS", 0, book.doomed(0));
        Check.same("1 HOUR", 0b001, book.doomed(1));
        Check.same("11 HOURS", 0b001, book.doomed(11));
        Check.same("12 HOURS", 0b011, book.doomed(12));
        Check.same("100 HOURS", 0b011, book.doomed(100));
        book.hours(1);
        Check.same("who is DROWNED now is not", 0, book.doomed(0));
        Check.same("nor later", 0b010, book.doomed(100));
        book.wind(1);
        Check.same("by WIND as it is", 0b110, book.doomed(11));
        Whole.leavesAll("nothing stays", Whole::rich, b -> b.doomed(100));
        Check.same("of none", 0, new TideBook().doomed(100));
    }

    private static void doneBounds() {
        Check.sentence(40, "IllegalArgumentException: N is none.");
        TideBook book = Check.coast("range 0 to 0;monk 0 pace 1;duty 0 from 99 to 99;duty 0 from 0 to 0;duty 0 from 100 to 100");
        Check.same("0 HOURS", 0, book.done(0));
        Check.same("1 HOUR", 0b010, book.done(1));
        Check.same("99 HOURS", 0b010, book.done(99));
        Check.same("100 HOURS", 0b011, book.done(100));
        Whole.noArgument("done(-1)", b -> b.done(-1));
        Whole.noArgument("done(101)", b -> b.done(101));
        for (int far : FAR) {
            Whole.noArgument("done(" + far + ")", b -> b.done(far));
        }
    }

    private static void done() {
        Check.sentence(40, "DONE by N HOURS AHEAD: DUTIES that are KEPT then, as bits.");
        TideBook book = Check.coast("range 0 to 0;monk 0 pace 1 goal 1;duty 0 from 0 to 0;duty 1 from 0 to 5;duty 5 from 0 to 5;duty 1 from 4 to 5;duty 1 from 0 to 1;duty 1 from 5 to 5");
        book.hours(1);
        Check.same("KEPT now", 0b010010, book.count(12));
        Check.same("KEPT now, so then", 0b010010, book.done(0));
        Check.same("3 HOURS", 0b010010, book.done(3));
        Check.same("4 HOURS", 0b011010, book.done(4));
        Check.same("5 HOURS, the last one, too", 0b111010, book.done(5));
        Check.same("all of them", 0b111010, book.done(100));
        book.wind(2);
        Check.same("it is there, by whatever WIND", 0b111010, book.done(5));
        // by WIND 2 one cannot go to the DUTY, by the WIND 0 that STEP 0 would draw one could
        TideBook wind = Check.coast("range 0 to 0;ground 0 9;monk 0 pace 1 goal 1;duty 1 from 0 to 99");
        wind.wind(2);
        Check.same("WIND as it is", 0, wind.done(100));
        wind.wind(1);
        Check.same("WIND as it is", 1, wind.done(1));
        Whole.leavesAll("nothing stays", Whole::rich, b -> b.done(100));
        Check.same("of none", 0, new TideBook().done(100));
    }

    private static void lost() {
        Check.sentence(41, "LOST: DUTIES not KEPT whose last HOUR is below HOUR, as bits.");
        TideBook book = Check.coast("range 0 to 0;monk 0 pace 1;duty 5 from 0 to 0;duty 0 from 0 to 0;duty 5 from 0 to 1;duty 5 from 1 to 1;duty 5 from 0 to 999;duty 5 from 0 to 2");
        Check.same("HOUR 0", 0, book.lost());
        book.hours(1);
        Check.same("HOUR 1", 0b000001, book.lost());
        book.hours(1);
        Check.same("HOUR 2", 0b001101, book.lost());
        book.hours(1);
        Check.same("HOUR 3", 0b101101, book.lost());
        book.anew(1);
        Check.same("one told anew", 0b101111, book.lost());
        for (int i = 0; i < 9; i++) {
            book.hours(100);
        }
        book.hours(96);
        Check.same("HOUR 999", 999, book.count(4));
        Check.same("its last HOUR is now", 0b101111, book.lost());
        book.hours(1);
        Check.same("HOUR 1000", 0b111111, book.lost());
        Check.same("of none", 0, new TideBook().lost());
    }

    private static void oddsBounds() {
        Check.sentence(42, "IllegalArgumentException: N or K are none.");
        TideBook book = Check.coast("storm 50");
        Check.same("odds(0, 0)", 10000, book.odds(0, 0));
        Check.same("odds(6, 6)", 156, book.odds(6, 6));
        Whole.noArgument("odds(-1, 0)", b -> b.odds(-1, 0));
        Whole.noArgument("odds(7, 0)", b -> b.odds(7, 0));
        Whole.noArgument("odds(0, -1)", b -> b.odds(0, -1));
        Whole.noArgument("odds(0, 7)", b -> b.odds(0, 7));
        Whole.noArgument("odds(6, 7)", b -> b.odds(6, 7));
        for (int far : FAR) {
            Whole.noArgument("odds(" + far + ", 0)", b -> b.odds(far, 0));
            Whole.noArgument("odds(0, " + far + ")", b -> b.odds(0, far));
        }
    }

    private static void odds() {
        Check.sentence(42, "ODDS of N TIDES (0 to 6) with K storms (0 to 6) at least, by STORM, each alike, in 10000, rounded down.");
        int[][] half = {{10000, 0, 0, 0, 0, 0, 0}, {10000, 5000, 0, 0, 0, 0, 0}, {10000, 7500, 2500, 0, 0, 0, 0}, {10000, 8750, 5000, 1250, 0, 0, 0},
            {10000, 9375, 6875, 3125, 625, 0, 0}, {10000, 9687, 8125, 5000, 1875, 312, 0}, {10000, 9843, 8906, 6562, 3437, 1093, 156}};
        TideBook book = Check.coast("storm 50");
        for (int n = 0; n <= 6; n++) {
            for (int k = 0; k <= 6; k++) {
                Check.same("odds(" + n + ", " + k + ") by STORM 50", half[n][k], book.odds(n, k));
            }
        }
        TideBook none = new TideBook();
        Check.same("no storm, none of them", 10000, none.odds(6, 0));
        Check.same("no storm, one of them", 0, none.odds(6, 1));
        TideBook all = Check.coast("storm 100");
        Check.same("always, all of them", 10000, all.odds(6, 6));
        Check.same("always, more than these", 0, all.odds(5, 6));
        // 0.01 to the 2nd is 1 in 10000, to the 3rd less than 1
        TideBook one = Check.coast("storm 1");
        Check.same("1 in 10000", 1, one.odds(2, 2));
        Check.same("less than 1 in 10000", 0, one.odds(3, 3));
        // 1 less 0.99 to the 6th is 0.058519..
        Check.same("rounded down", 585, one.odds(6, 1));
        // 1 less 0.01 to the 6th
        Check.same("all but 10000", 9999, Check.coast("storm 99").odds(6, 1));
    }

    private static void riskBounds() {
        Check.sentence(43, "IllegalArgumentException: D or the HOUR are none.");
        TideBook book = Check.coast("range 9 to 9");
        Check.same("risk(0, 0, 0)", 11, book.risk(0, 0, 0));
        // 9999 is STEP 3: 9 * 6 / 12 = 4
        Check.same("risk(11, 9999, 9)", 0, book.risk(11, 9999, 9));
        Check.same("risk(11, 9999, 8)", 1, book.risk(11, 9999, 8));
        Check.same("risk(11, 0, 9)", 5, book.risk(11, 0, 9));
        Whole.noArgument("risk(0, -1, 0)", b -> b.risk(0, -1, 0));
        Whole.noArgument("risk(0, 10000, 0)", b -> b.risk(0, 10000, 0));
        Whole.noArgument("risk(0, 0, -1)", b -> b.risk(0, 0, -1));
        Whole.noArgument("risk(0, 0, 10)", b -> b.risk(0, 0, 10));
        for (int far : FAR) {
            Whole.noArgument("risk(0, " + far + ", 0)", b -> b.risk(0, far, 0));
            Whole.noArgument("risk(0, 0, " + far + ")", b -> b.risk(0, 0, far));
        }
        Check.sentence(43, "IndexOutOfBoundsException: there is no such PLACE, MONK, DUTY.");
        Whole.noIndex("risk(-1, 0, 0)", b -> b.risk(-1, 0, 0));
        Whole.noIndex("risk(12, 0, 0)", b -> b.risk(12, 0, 0));
        for (int far : FAR) {
            Whole.noIndex("risk(" + far + ", 0, 0)", b -> b.risk(far, 0, 0));
        }
        Check.sentence(43, "Of several exceptions the one told first is thrown");
        Whole.noIndex("risk(12, 10000, 0)", b -> b.risk(12, 10000, 0));
        Whole.noIndex("risk(-1, 0, 10)", b -> b.risk(-1, 0, 10));
    }

    private static void risk() {
        Check.sentence(43, "RISK of a PLACE in an HOUR by a depth D: in how many of the 11 WINDS it is deeper than D.");
        // HOUR 3 has WATER 6: 1 to 11 by WINDS; on GROUND 4 DEPTH 0, 0, 0, 0, 1, .. 7
        TideBook book = Check.coast("range 12 to 12;ground 4 4;ground 5 19");
        int[] flat = {11, 10, 9, 8, 7, 6, 5, 4, 3, 2};
        int[] bank = {7, 6, 5, 4, 3, 2, 1, 0, 0, 0};
        for (int depth = 0; depth <= 9; depth++) {
            Check.same("risk(0, 3, " + depth + ")", flat[depth], book.risk(0, 3, depth));
            Check.same("risk(4, 3, " + depth + ")", bank[depth], book.risk(4, 3, depth));
        }
        // HOUR 6 has none: 0 by all WINDS that are not above 0
        Check.same("of no WATER", 5, book.risk(0, 6, 0));
        Check.same("of no WATER, D 4", 1, book.risk(0, 6, 4));
        Check.same("of no WATER, D 5", 0, book.risk(0, 6, 5));
        Check.same("on high ground", 0, book.risk(5, 0, 0));
        book.wind(5);
        Check.same("whatever the WIND is", 11, book.risk(0, 3, 0));
        book.wind(-5);
        Check.same("whatever the WIND is", 11, book.risk(0, 3, 0));
    }

    private static void trialBounds() {
        Check.sentence(44, "IllegalArgumentException: N is none.");
        TideBook book = Check.coast("range 0 to 0;monk 0 pace 1;duty 0 from 99 to 99;duty 0 from 0 to 0;duty 0 from 100 to 100");
        Check.same("0 HOURS", 0, book.trial(0, false));
        Check.same("1 HOUR", 1, book.trial(1, false));
        Check.same("99 HOURS", 1, book.trial(99, false));
        Check.same("100 HOURS", 2, book.trial(100, false));
        for (boolean drowned : new boolean[] {false, true}) {
            Whole.noArgument("trial(-1, " + drowned + ")", b -> b.trial(-1, drowned));
            Whole.noArgument("trial(101, " + drowned + ")", b -> b.trial(101, drowned));
            for (int far : FAR) {
                Whole.noArgument("trial(" + far + ", " + drowned + ")", b -> b.trial(far, drowned));
            }
        }
    }

    private static void trial() {
        Check.sentence(44, "TRIAL of N HOURS (0 to 100) from now (draws, too; nothing stays): DUTIES KEPT in it, how many; MONKS that are DROWNED then, as bits.");
        // WIND 5 as drawn drowns one who WADES 1 at once, WIND - 5 lets it live
        int up = Draws.seedOf(0, 10);
        int down = Draws.seedOf(0, 0);
        TideBook book = Check.coast("range 0 to 0;storm 1;monk 0 pace 1;monk 1 pace 1;ground 1 1;duty 0 from 0 to 0;duty 0 from 1 to 1");
        book.seed(up);
        Check.same("0 HOURS", 0, book.trial(0, true));
        Check.same("WIND 5 is drawn", 0b01, book.trial(1, true));
        Check.same("KEPT ahead of it", 1, book.trial(2, false));
        book.seed(down);
        Check.same("WIND - 5 is drawn", 0, book.trial(1, true));
        Check.same("both KEPT", 2, book.trial(2, false));
        book.wind(5);
        Check.same("a WIND that was told is gone in STEP 0", 0, book.trial(1, true));
        book.seed(up);
        book.hours(1);
        Check.same("DROWNED now, so then", 0b01, book.trial(0, true));
        Check.same("KEPT now, not in it", 0, book.trial(12, false));
    }

    private static void trialHowManyOrBits() {
        Check.sentence(44, "TRIAL: how many (drowned false), or MONKS, as bits.");
        TideBook six = Check.coast("monk 0 pace 1" + ";monk 0 pace 1".repeat(5) + ";duty 0 from 0 to 0".repeat(6));
        Check.same("six DUTIES", 6, six.trial(1, false));
        Check.same("six MONKS", 0b111111, six.trial(1, true));
        TideBook last = Check.coast("ground 0 19;monk 0 pace 1" + ";monk 0 pace 1".repeat(4) + ";monk 1 pace 1;duty 1 from 0 to 0");
        Check.same("one DUTY", 1, last.trial(100, false));
        Check.same("the last MONK", 0b100000, last.trial(100, true));
        Check.same("of none", 0, new TideBook().trial(100, true));
    }

    private static void trialNothingStays() {
        Check.sentence(44, "(draws, too; nothing stays)");
        Whole.leavesAll("trial(100, false)", Whole::rich, b -> b.trial(100, false));
        Whole.leavesAll("trial(100, true)", Whole::rich, b -> b.trial(100, true));
        Whole.leavesAll("trial(0, true)", Whole::rich, b -> b.trial(0, true));
    }

    private static void spanBounds() {
        Check.sentence(45, "IllegalArgumentException: N is none.");
        TideBook book = Check.coast("range 0 to 0;monk 0 pace 1;duty 0 from 99 to 99;duty 0 from 0 to 0;duty 0 from 100 to 100");
        for (boolean most : new boolean[] {false, true}) {
            Check.same("0 HOURS", 0, book.span(0, most));
            Check.same("1 HOUR", 1, book.span(1, most));
            Check.same("99 HOURS", 1, book.span(99, most));
            Check.same("100 HOURS", 2, book.span(100, most));
            Whole.noArgument("span(-1, " + most + ")", b -> b.span(-1, most));
            Whole.noArgument("span(101, " + most + ")", b -> b.span(101, most));
            for (int far : FAR) {
                Whole.noArgument("span(" + far + ", " + most + ")", b -> b.span(far, most));
            }
        }
    }

    private static void span() {
        Check.sentence(45, "SPAN: the fewest (most false), or the most.");
        TideBook six = Check.coast("range 0 to 0;monk 0 pace 1" + ";duty 0 from 0 to 9".repeat(6));
        Check.same("all six", 6, six.span(1, false));
        Check.same("all six", 6, six.span(1, true));
        six.hours(1);
        Check.same("KEPT now, not so", 0, six.span(1, false));
        Check.same("KEPT now, not so", 0, six.span(1, true));
        Check.same("of none", 0, new TideBook().span(100, true));
        Whole.leavesAll("nothing stays", Whole::rich, b -> b.span(100, true));
        Whole.leavesAll("nothing stays", Whole::rich, b -> b.span(100, false));
    }

    /** A monk who can set out to a duty beside in the first HOUR of a TIDE alone, by a WIND that is no more than this. */
    private static TideBook setsOut(int tide, int wind) {
        int ground = 7 + wind;
        TideBook book = Check.coast("storm 100;period 4;range 8 to 8;ground 0 19;ground 1 " + ground + ";monk 0 pace 1 goal 1;duty 1 from "
                + 4 * tide + " to " + 4 * tide);
        Check.rule(book, "wait if hour < " + 4 * tide);
        return book;
    }

    private static int windOf(int seed, int tide) {
        Draws draws = new Draws(seed);
        for (int i = 0; i < 2 * tide + 1; i++) {
            draws.next();
        }
        return draws.next() % 11 - 5;
    }

    private static void spanSeeds() {
        Check.sentence(45, "SPAN: the fewest and the most DUTIES KEPT so from SEED 1, 2, .. 6.");
        boolean[] tells = new boolean[8];
        for (int tide = 0; tide < 6; tide++) {
            for (int wind = -5; wind <= 5; wind++) {
                int keep = 0;
                for (int seed = 1; seed <= 6; seed++) {
                    keep += keeps(seed, tide, wind) ? 1 : 0;
                }
                TideBook book = setsOut(tide, wind);
                book.seed(1234567);
                Check.same("the fewest by TIDE " + tide + ", WIND " + wind, keep == 6 ? 1 : 0, book.span(4 * tide + 1, false));
                Check.same("the most by TIDE " + tide + ", WIND " + wind, keep > 0 ? 1 : 0, book.span(4 * tide + 1, true));
                for (int seed : new int[] {1, 6}) {
                    tells[seed] |= keep == (keeps(seed, tide, wind) ? 1 : 5);
                }
                for (int seed : new int[] {0, 7}) {
                    tells[seed] |= keep == (keeps(seed, tide, wind) ? 0 : 6);
                }
            }
        }
        for (int seed : new int[] {0, 1, 6, 7}) {
            Check.yes("whether SEED " + seed + " counts changes some answer", tells[seed]);
        }
    }

    private static boolean keeps(int seed, int tide, int wind) {
        return windOf(seed, tide) <= wind;
    }
}

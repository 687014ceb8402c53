/** Ways over the flats, the latest start, safe hours, who fetches, who is sent, the most duties. */
public final class WaysTest {
    public static void main(String[] args) {
        ways();
        wetStarts();
        wrongWays();
        starts();
        safes();
        fetches();
        sends();
        wrongTapes();
        mosts();
        Check.finish();
    }

    private static final String ALWAYS_DRY = "range 0 to 0";

    /** Period 4, range 8 (water 8, 4, 0, 4), high ground at both ends of a row of four. */
    private static TideBook gap() {
        return Check.coast("period 4;range 8 to 8;ground 0 9;ground 3 9");
    }

    private static void ways() {
        Check.promise(25);
        TideBook dry = Check.coast(ALWAYS_DRY);
        Check.same("to where one is", 0, dry.way(5, 5, 1, 0, 0));
        Check.same("one beside", 1, dry.way(5, 6, 1, 0, 0));
        Check.same("the whole row by 4", 3, dry.way(0, 11, 4, 0, 0));
        Check.same("back by 3", 4, dry.way(11, 0, 3, 0, 17));
        Check.same("by 1", 11, dry.way(11, 0, 1, 0, 17));
        TideBook book = gap();
        // by depth 0 the flats are open in hour 2 alone, and no one may be there in hour 3
        Check.same("too slow", -1, book.way(0, 3, 2, 0, 0));
        Check.same("over in hour 2", 3, book.way(0, 3, 3, 0, 0));
        Check.same("from hour 2 on", 1, book.way(0, 3, 3, 0, 2));
        Check.same("from hour 3 on", 4, book.way(0, 3, 3, 0, 3));
        // by depth 4 they are open in hours 1, 2, 3, but not to stay to hour 4
        Check.same("by 1", 4, book.way(0, 3, 1, 4, 0));
        Check.same("by 1, too late", 6, book.way(0, 3, 1, 4, 2));
        Check.same("by 2", 3, book.way(0, 3, 2, 4, 0));
        Check.same("by 3", 2, book.way(0, 3, 3, 4, 0));
        Check.same("by 1 to the flats", 2, book.way(0, 1, 1, 4, 0));
        Check.same("in hour 3 one may not come to the flats", 3, book.way(0, 1, 1, 4, 3));
        Check.same("by depth 8 at any hour", 3, book.way(0, 3, 1, 8, 0));
        book.wind(-4);
        Check.same("by wind", 1, book.way(0, 3, 3, 0, 1));
        // by depth 0 open in step 12 alone: 19 * 2 / 24 is 1 beside it
        TideBook rare = Check.coast("period 24;range 19 to 19;ground 0 19;ground 2 19");
        Check.same("open once a tide", 1, rare.way(0, 2, 2, 0, 12));
        Check.same("a tide later", 24, rare.way(0, 2, 2, 0, 13));
        rare.wind(1);
        Check.same("never", -1, rare.way(0, 2, 2, 0, 13));
        // Ranges 12, 10, 8, 6, 5, 3, 1, 0, 1, 3, 5, 6, 8, 10: by 1 one needs two hours of no water
        // in a row, which a range of 6 or more has not; tide 18 has them from hour 221 on.
        TideBook far = Check.coast("period 12;round 14;range 0 to 12;ground 0 19;ground 2 19");
        Check.same("60 hours", 60, far.way(0, 2, 1, 0, 163));
        Check.same("61 hours are too many", -1, far.way(0, 2, 1, 0, 162));
    }

    private static void wetStarts() {
        Check.promise(25);
        TideBook book = gap();
        // place 1 is 4 deep in hour 1, and dry in hour 2
        Check.same("where one starts may be deep in that hour", 2, book.way(1, 3, 2, 3, 1));
        Check.same("by 1 one does not come off in time", -1, book.way(1, 3, 1, 3, 1));
        Check.same("but not in the next one, if one stays", -1, book.way(5, 1, 1, 3, 0));
        Check.same("from deep water to dry land beside", 1, book.way(1, 0, 1, 0, 0));
        Check.same("one who must stay in deep water", -1, book.way(6, 5, 1, 0, 3));
    }

    private static void wrongWays() {
        Check.promise(25);
        TideBook book = gap();
        Check.noIndex("from 12", () -> book.way(12, 0, 1, 0, 0));
        Check.noIndex("from -1", () -> book.way(-1, 0, 9, 0, 0));
        Check.noIndex("to 12", () -> book.way(0, 12, 1, 0, 0));
        Check.noIndex("to -1", () -> book.way(0, -1, 1, 0, 0));
        Check.noArgument("pace 0", () -> book.way(0, 0, 0, 0, 0));
        Check.noArgument("pace 5", () -> book.way(0, 0, 5, 0, 0));
        Check.noArgument("depth -1", () -> book.way(0, 0, 1, -1, 0));
        Check.noArgument("depth 10", () -> book.way(0, 0, 1, 10, 0));
        Check.noArgument("hour -1", () -> book.way(0, 0, 1, 0, -1));
        Check.noArgument("hour 10000", () -> book.way(0, 0, 1, 0, 10000));
        Check.same("the last hour", 0, book.way(0, 0, 1, 0, 9999));
    }

    private static void starts() {
        Check.promise(26);
        TideBook book = gap();
        Check.same("a later tide's way counts", 3, book.start(0, 3, 3, 0, 0));
        Check.same("too slow", -1, book.start(0, 3, 2, 0, 0));
        Check.same("to where one is", 1603, book.start(3, 3, 1, 0, 400));
        // one who is on the flats must be off them: from 1 to 0 in hours 0, 1, 2 and 3
        Check.same("off the flats", 7, book.start(1, 0, 1, 0, 1));
        // from 2 to 0 by 1 by depth 3: in hour 1 to 1 is too deep, in hour 2 one is there in hour 3
        Check.same("by depth 3", -1, book.start(2, 0, 1, 3, 0));
        Check.same("in hour 3 one can go the other way, and over with the next tide", 3, book.start(2, 0, 1, 4, 0));
        // ranges 0, 2, 4, 6 in tides 14, 15, 16, 17: four hours on ground 2 are dry until hour 64
        TideBook rising = Check.coast("period 4;round 28;range 0 to 28;ground 0 2;ground 1 2;ground 2 2;ground 3 2;ground 4 19");
        Check.same("all hours of the tide before", 59, rising.start(0, 4, 1, 0, 14));
        Check.same("the first hour alone", 60, rising.start(0, 4, 1, 0, 15));
        Check.same("no hour of the next tide", -1, rising.start(0, 4, 1, 0, 16));
        book.wind(5);
        Check.same("by wind", -1, book.start(0, 3, 3, 0, 0));
        Check.noIndex("from 12", () -> book.start(12, 0, 1, 0, 0));
        Check.noIndex("to -1", () -> book.start(0, -1, 0, 0, 0));
        Check.noArgument("pace 0", () -> book.start(0, 0, 0, 0, 0));
        Check.noArgument("pace 5", () -> book.start(0, 0, 5, 0, 0));
        Check.noArgument("depth -1", () -> book.start(0, 0, 1, -1, 0));
        Check.noArgument("depth 10", () -> book.start(0, 0, 1, 10, 0));
        Check.noArgument("tide -1", () -> book.start(0, 0, 1, 0, -1));
        Check.noArgument("tide 401", () -> book.start(0, 0, 1, 0, 401));
    }

    private static void safes() {
        Check.promise(27);
        TideBook book = gap();
        Check.same("on high ground", 4, book.safe(0, 0, 0, 0));
        Check.same("over the flats by 0", 1, book.safe(0, 3, 0, 0));
        Check.same("over the flats by 4", 3, book.safe(0, 3, 4, 400));
        Check.same("over the flats by 8", 4, book.safe(0, 11, 8, 1));
        Check.same("the last place alone", 3, book.safe(11, 11, 5, 1));
        TideBook uneven = Check.coast("period 4;range 8 to 8;ground 4 8;ground 5 4;ground 6 8");
        Check.same("both ends and between: the lowest counts", 3, uneven.safe(4, 6, 0, 0));
        Check.same("no others", 4, uneven.safe(4, 4, 0, 0));
        uneven.wind(1);
        Check.same("by wind", 1, uneven.safe(4, 6, 0, 0));
        Check.noIndex("from 12", () -> book.safe(12, 0, 0, 0));
        Check.noIndex("to 12", () -> book.safe(0, 12, 0, 0));
        Check.noIndex("from -1", () -> book.safe(-1, 0, 99, 0));
        Check.noArgument("from above to", () -> book.safe(2, 1, 0, 0));
        Check.noArgument("depth -1", () -> book.safe(0, 1, -1, 0));
        Check.noArgument("depth 10", () -> book.safe(0, 1, 10, 0));
        Check.noArgument("tide -1", () -> book.safe(0, 1, 0, -1));
        Check.noArgument("tide 401", () -> book.safe(0, 1, 0, 401));
    }

    private static void fetches() {
        Check.promise(28);
        TideBook book = Check.coast(ALWAYS_DRY + ";monk 5 pace 1;monk 0 pace 1;monk 11 pace 2;monk 9 pace 2;monk 1 pace 1");
        // to 5: 5, 3, 2, 4 hours
        Check.same("the soonest", 3, book.fetch(0));
        Check.same("of the last", 1, book.fetch(4));
        Check.same("of several the least", 2, book.fetch(3));
        TideBook same = Check.coast(ALWAYS_DRY + ";monk 5 pace 1;monk 5 pace 1;monk 5 pace 1");
        Check.same("at the same place: the least other one", 1, same.fetch(0));
        Check.same("the least other one", 0, same.fetch(2));
        Check.noIndex("fetch(5)", () -> book.fetch(5));
        Check.noIndex("fetch(-1)", () -> book.fetch(-1));
        Check.same("alone", -1, Check.coast("monk 0 pace 1").fetch(0));
        TideBook wet = Check.coast("ground 0 19;ground 2 19;ground 4 19;monk 0 pace 1;monk 2 pace 2;monk 3 pace 1");
        wet.hours(1);
        Check.same("who is drowned does not fetch, nor is fetched", 0b100, wet.count(13));
        Check.same("fetched", -1, wet.fetch(2));
        Check.same("by depth 1 from now on", 1, wet.fetch(0));
        TideBook deep = Check.coast("range 1 to 1;monk 0 pace 1;monk 3 pace 1");
        Check.same("depth 1", 1, deep.fetch(0));
        deep.wind(2);
        Check.rule(deep, "wade 9");
        Check.same("2 is too deep, by whatever one wades", -1, deep.fetch(0));
    }

    private static int send(TideBook book, int monk, int... places) {
        Check.tape(book, places);
        return book.send(monk);
    }

    private static void sends() {
        Check.promise(29);
        TideBook book = Check.coast(ALWAYS_DRY + ";monk 0 pace 1;monk 4 pace 1;monk 8 pace 2");
        Check.same("all at their own", 0, send(book, -1, 8, 0, 4));
        Check.same("to which", 1, send(book, 0, 8, 0, 4));
        Check.same("to which", 2, send(book, 1, 8, 0, 4));
        Check.same("to which", 0, send(book, 2, 8, 0, 4));
        Check.same("to one place", 4 + 4, send(book, -1, 0, 0, 0));
        Check.same("the least for the first", 0, send(book, 0, 0, 0, 0));
        Check.same("then for the next", 1, send(book, 1, 0, 0, 0));
        Check.same("then for the last", 2, send(book, 2, 0, 0, 0));
        // both take 1 hour to place 4; to place 10 the first one takes 2, the other one 5
        TideBook two = Check.coast(ALWAYS_DRY + ";monk 3 pace 4;monk 5 pace 1");
        Check.same("together", 3, send(two, -1, 4, 10));
        Check.same("the first one goes further", 1, send(two, 0, 4, 10));
        Check.same("the other one near", 0, send(two, 1, 4, 10));
        TideBook draw = Check.coast(ALWAYS_DRY + ";monk 0 pace 1;monk 1 pace 1");
        Check.same("a draw", 5, send(draw, -1, 3, 3));
        Check.same("a draw of unlike places", 7, send(draw, -1, 5, 3));
        Check.same("the first gets the first", 0, send(draw, 0, 5, 3));
        Check.same("the other the other", 1, send(draw, 1, 5, 3));
        Check.same("without monks", 0, send(new TideBook(), -1));
        TideBook wet = Check.coast("ground 0 19;ground 2 19;monk 1 pace 1;monk 0 pace 1;monk 2 pace 1");
        wet.hours(1);
        Check.same("the first one is drowned", 0b001, wet.count(13));
        Check.same("no place for it", -1, send(wet, 0, 0, 2));
        Check.same("the others", 0, send(wet, -1, 0, 2));
        Check.same("the next one", 0, send(wet, 1, 0, 2));
        Check.same("the last one", 1, send(wet, 2, 0, 2));
        TideBook none = Check.coast("range 9 to 9;ground 0 19;monk 0 pace 1;monk 0 pace 1");
        none.wind(5);
        Check.same("no such way", -1, send(none, -1, 0, 5));
        Check.same("no such way for any", -1, send(none, 0, 0, 5));
        TideBook six = Check.coast(ALWAYS_DRY + ";monk 0 pace 1;monk 2 pace 1;monk 4 pace 1;monk 6 pace 1;monk 8 pace 1;monk 10 pace 1");
        Check.same("six", 6, send(six, -1, 11, 9, 7, 5, 3, 1));
        Check.same("the first of six", 5, send(six, 0, 11, 9, 7, 5, 3, 1));
        Check.same("the last of six", 0, send(six, 5, 11, 9, 7, 5, 3, 1));
    }

    private static void wrongTapes() {
        Check.promise(29);
        TideBook book = Check.coast(ALWAYS_DRY + ";monk 0 pace 1;monk 4 pace 1");
        Check.noArgument("too few", () -> send(book, -1, 0));
        Check.noArgument("too many", () -> send(book, 0, 0, 1, 2));
        Check.noArgument("none", () -> send(book, 0));
        Check.noArgument("a place 12", () -> send(book, 0, 0, 12));
        Check.no("used up", book.end(1));
        Check.noIndex("send(2)", () -> send(book, 2, 0, 1));
        Check.no("used up, too", book.end(1));
        Check.noIndex("send(-2)", () -> send(book, -2, 99));
        send(book, 0, 0, 1);
        Check.no("used up", book.end(1));
        Check.noArgument("bytes without monks", () -> send(new TideBook(), -1, 0));
        TideBook wet = Check.coast("monk 1 pace 1");
        wet.hours(1);
        Check.noArgument("all are drowned", () -> send(wet, 0, 0));
        Check.same("all are drowned", 0, send(wet, -1));
        Check.same("one who is drowned", -1, send(wet, 0));
    }

    private static void row(TideBook book, int monk, int... duties) {
        Check.same("most(" + monk + ")", duties.length, book.most(monk, -1));
        for (int k = 0; k < duties.length; k++) {
            Check.same("most(" + monk + ", " + k + ")", duties[k], book.most(monk, k));
        }
        Check.same("none behind", -1, book.most(monk, duties.length));
    }

    private static void mosts() {
        Check.promise(30);
        TideBook book = Check.coast(ALWAYS_DRY + ";monk 5 pace 1;duty 7 from 0 to 2;duty 3 from 0 to 6;duty 5 from 0 to 0");
        row(book, 0, 2, 0, 1);
        Check.same("k below NONE", -1, book.most(0, -2));
        Check.same("k 6", -1, book.most(0, 6));
        Check.noIndex("most(1, 0)", () -> book.most(1, 0));
        Check.noIndex("most(-1, 0)", () -> book.most(-1, 0));
        row(Check.coast(ALWAYS_DRY + ";monk 5 pace 1"), 0);
        row(Check.coast(ALWAYS_DRY + ";monk 5 pace 1;duty 11 from 0 to 5"), 0);
        row(Check.coast(ALWAYS_DRY + ";monk 5 pace 1;duty 11 from 0 to 6"), 0, 0);
        // one waits for the first hour of the duty, and goes on from there
        row(Check.coast(ALWAYS_DRY + ";monk 5 pace 1;duty 5 from 20 to 30;duty 6 from 0 to 20"), 0, 1, 0);
        row(Check.coast(ALWAYS_DRY + ";monk 5 pace 1;duty 5 from 20 to 30;duty 6 from 20 to 21"), 0, 0, 1);
        row(Check.coast(ALWAYS_DRY + ";monk 5 pace 1;duty 5 from 20 to 20;duty 6 from 20 to 20"), 0, 0);
        // any order will do: the first by its first unlike duty
        row(Check.coast(ALWAYS_DRY + ";monk 5 pace 4;duty 1 from 0 to 99;duty 2 from 0 to 99;duty 3 from 0 to 99;"
                + "duty 4 from 0 to 99;duty 5 from 0 to 99;duty 6 from 0 to 99"), 0, 0, 1, 2, 3, 4, 5);
        TideBook kept = Check.coast(ALWAYS_DRY + ";monk 5 pace 1;duty 5 from 0 to 9;duty 6 from 0 to 9;duty 0 from 0 to 0");
        kept.hours(1);
        row(kept, 0, 1);
        kept.anew(0);
        row(kept, 0, 0, 1);
        TideBook wet = Check.coast("monk 0 pace 1;duty 0 from 1 to 99");
        wet.hours(1);
        row(wet, 0);
        // depth 1 from that hour on: water 8, 4, 0, 4 leaves no way off for the slow
        TideBook gap = Check.coast("period 4;range 8 to 8;ground 0 9;ground 3 9;monk 0 pace 3;monk 0 pace 2;"
                + "duty 3 from 0 to 3;duty 0 from 4 to 7;duty 0 from 0 to 6");
        row(gap, 0, 2, 0, 1);
        row(gap, 1, 1, 2);
    }
}

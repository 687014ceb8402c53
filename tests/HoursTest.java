import java.util.NoSuchElementException;

/** Hours that go by, acts on monks and duties, what is ahead, and the log. */
public final class HoursTest {
    public static void main(String[] args) {
        goals();
        rests();
        winds();
        anews();
        walks();
        tires();
        drowns();
        duties();
        lastHour();
        stranded();
        ahead();
        doomed();
        done();
        lost();
        led();
        log();
        Check.finish();
    }

    /** A monk at 0 to 11 on dry ground. */
    private static TideBook dry(String line) {
        return Check.coast("range 0 to 0;" + line);
    }

    private static void goals() {
        Check.promise(14);
        TideBook book = dry("monk 3 pace 2 goal 7");
        Check.same("goal(0, 1)", 7, book.goal(0, 1));
        Check.same("goal", 1, book.monk(0, 1));
        Check.same("goal(0, 11)", 1, book.goal(0, 11));
        Check.same("acts", 2, book.count(15));
        Check.noIndex("goal(1, 0)", () -> book.goal(1, 0));
        Check.noIndex("goal(-1, 0)", () -> book.goal(-1, 0));
        Check.noIndex("goal(0, 12)", () -> book.goal(0, 12));
        Check.noIndex("goal(0, -1)", () -> book.goal(0, -1));
        Check.same("acts", 2, book.count(15));
        TideBook wet = Check.coast("monk 3 pace 1");
        wet.hours(1);
        Check.fails("goal of one who is drowned", IllegalStateException.class, () -> wet.goal(0, 1));
        Check.noIndex("no such place first", () -> wet.goal(0, 12));
        Check.same("acts", 1, wet.count(15));
        Check.same("goal", 3, wet.monk(0, 1));
    }

    private static void rests() {
        Check.promise(15);
        TideBook book = dry("monk 3 pace 1");
        Check.rule(book, "tire 4");
        book.hours(2);
        Check.same("rest(0)", 8, book.rest(0));
        Check.same("tired", 0, book.monk(0, 3));
        Check.same("rest(0) again", 0, book.rest(0));
        Check.same("acts", 3, book.count(15));
        Check.noIndex("rest(1)", () -> book.rest(1));
        Check.noIndex("rest(-1)", () -> book.rest(-1));
        TideBook wet = Check.coast("monk 3 pace 1");
        wet.hours(1);
        Check.fails("rest of one who is drowned", IllegalStateException.class, () -> wet.rest(0));
        Check.same("acts", 1, wet.count(15));
    }

    private static void winds() {
        Check.promise(18);
        TideBook book = new TideBook();
        Check.same("wind(5)", 0, book.wind(5));
        Check.same("water", 17, book.water(0));
        Check.same("wind(-5)", 5, book.wind(-5));
        Check.same("count", 0, book.count(9));
        Check.noArgument("wind(6)", () -> book.wind(6));
        Check.noArgument("wind(-6)", () -> book.wind(-6));
        Check.same("acts", 2, book.count(15));
        book.hours(1);
        Check.same("in step 0 it is drawn", 5, book.count(9));
        book.wind(3);
        book.hours(11);
        Check.same("else it stays", 8, book.count(9));
        book.hours(1);
        Check.same("until step 0 goes by", 5, book.count(9));

        Check.promise(20);
        // draws from seed 1: 16838, 5758, 10113, 17515, 31051, 5627
        TideBook always = Check.coast("storm 100;period 4");
        always.hours(1);
        Check.same("5758 modulo 11", 5, always.count(9));
        always.hours(4);
        Check.same("17515 modulo 11", 3, always.count(9));
        always.hours(4);
        Check.same("5627 modulo 11", 6, always.count(9));
        TideBook just = Check.coast("storm 39;period 4");
        just.hours(1);
        just.hours(4);
        Check.same("the third draw is below 39: the fourth one", 3, just.count(9));
        TideBook notQuite = Check.coast("storm 38;period 4");
        notQuite.hours(1);
        Check.same("38 is not below 38", 5, notQuite.count(9));
        notQuite.hours(4);
        Check.same("58 is not, with the second draw", 5, notQuite.count(9));
        notQuite.hours(4);
        Check.same("13 is, with the third", 3, notQuite.count(9));
    }

    private static void anews() {
        Check.promise(19);
        TideBook book = dry("monk 3 pace 1;duty 3 from 0 to 5;duty 4 from 0 to 5");
        Check.no("anew(0), not kept", book.anew(0));
        book.hours(1);
        Check.same("kept", 1, book.count(12));
        Check.yes("anew(0), kept", book.anew(0));
        Check.same("kept", 0, book.count(12));
        Check.same("kept once more", 1, book.hours(1));
        Check.same("rows of the log", 2, book.count(14));
        Check.same("acts", 4, book.count(15));
        Check.noIndex("anew(2)", () -> book.anew(2));
        Check.noIndex("anew(-1)", () -> book.anew(-1));
        Check.same("acts", 4, book.count(15));
    }

    private static void walks() {
        Check.promise(20);
        TideBook book = dry("monk 0 pace 4 goal 11;monk 11 pace 3 goal 1;monk 5 pace 2;monk 6 pace 4 goal 8");
        int[][] want = {{4, 8, 5, 8}, {8, 5, 5, 8}, {11, 2, 5, 8}, {11, 1, 5, 8}};
        for (int hour = 0; hour < want.length; hour++) {
            book.hours(1);
            for (int monk = 0; monk < 4; monk++) {
                Check.same("place of " + monk + " behind hour " + hour, want[hour][monk], book.monk(monk, 0));
            }
        }
        Check.same("hour", 4, book.count(4));

        // water 3 in hour 0: ground 2 is 1 deep, ground 1 is 2 deep
        TideBook wade = Check.coast("range 3 to 3;period 24;ground 0 9;ground 1 2;ground 2 2;ground 3 1;monk 0 pace 4 goal 9");
        Check.same("one stops ahead of what is too deep", 2, wade.ahead(0, 1));
        Check.rule(wade, "wade 1");
        Check.same("and goes on by the law", 3, wade.ahead(0, 1));
        Check.rule(wade, "wade 2");
        Check.same("as deep as one may wade", 4, wade.ahead(0, 1));
        Check.rule(wade, "wade 5 if place < 1");
        Check.same("told once, ahead of its going", 4, wade.ahead(0, 1));
        Check.rule(wade, "wade 9;wait if step < 2");
        Check.same("one waits", 0, wade.ahead(0, 2));
        Check.same("and goes", 4, wade.ahead(0, 3));

        Check.noArgument("hours(0)", () -> book.hours(0));
        Check.noArgument("hours(101)", () -> book.hours(101));
        Check.noArgument("hours(-1)", () -> book.hours(-1));
        Check.same("acts", 4, book.count(15));
        book.hours(100);
        Check.same("hour", 104, book.count(4));
    }

    private static void tires() {
        Check.promise(20);
        TideBook book = dry("monk 0 pace 1 goal 2;monk 5 pace 1;monk 9 pace 1 goal 10");
        Check.rule(book, "tire 1;tire 2 if place > 1 and monk < 1;wait if monk > 1");
        book.hours(1);
        Check.same("one who walks", 1, book.monk(0, 3));
        Check.same("one who is there", 1, book.monk(1, 3));
        Check.same("one who waits", 1, book.monk(2, 3));
        book.hours(1);
        Check.same("by the place one has come to", 4, book.monk(0, 3));
        book.hours(1);
        Check.same("more", 7, book.monk(0, 3));
        book.hours(1);
        Check.same("9 at most", 9, book.monk(0, 3));
        Check.same("4 hours", 4, book.monk(1, 3));
    }

    private static void drowns() {
        Check.promise(20);
        // period 4, range 8: water 8, 4, 0, 4
        TideBook book = Check.coast("period 4;range 8 to 8;monk 0 pace 1;monk 1 pace 1;monk 2 pace 1;ground 1 1;ground 2 4");
        book.hours(1);
        Check.same("4 deep is just 3 above 1", 0, book.count(13));
        book.hours(2);
        Check.same("none in hour 3", 0, book.count(13));
        Check.same("hour 4 comes with water 8", 0, book.hours(1));
        Check.same("8 and 7 deep are too much, 4 is not", 0b011, book.count(13));
        TideBook wader = Check.coast("period 4;range 8 to 8;monk 0 pace 1;monk 1 pace 1");
        Check.rule(wader, "wade 3;wade 1 if step < 1 and monk > 0");
        wader.hours(4);
        Check.same("by what one wades then", 0b01, wader.count(13));
        TideBook wind = Check.coast("period 4;range 4 to 4;monk 0 pace 1");
        wind.hours(1);
        wind.wind(3);
        wind.hours(1);
        Check.same("water 0 and 3", 0, wind.count(13));
        wind.hours(1);
        Check.same("water 2 and 3", 1, wind.count(13));
        // one who is drowned neither walks nor keeps nor tires
        TideBook gone = Check.coast("monk 0 pace 1 goal 5;duty 0 from 1 to 50");
        Check.rule(gone, "tire 1");
        gone.hours(60);
        Check.same("drowned", 1, gone.count(13));
        Check.same("place", 0, gone.monk(0, 0));
        Check.same("tired", 1, gone.monk(0, 3));
        Check.same("kept", 0, gone.count(12));
        Check.same("rows", 1, gone.count(14));
    }

    private static void duties() {
        Check.promise(20);
        TideBook book = dry("monk 0 pace 1 goal 3;duty 1 from 0 to 0;duty 1 from 1 to 5;duty 2 from 1 to 1;duty 3 from 0 to 1;duty 3 from 2 to 2;duty 3 from 5 to 6");
        Check.same("one is kept where one has come to", 1, book.hours(1));
        Check.same("bits", 0b000001, book.count(12));
        Check.same("one", 1, book.hours(1));
        Check.same("in its only hour", 0b000101, book.count(12));
        Check.same("one", 1, book.hours(1));
        Check.same("bits", 0b010101, book.count(12));
        Check.same("none yet", 0, book.hours(2));
        Check.same("the first hour counts, and it is kept once", 1, book.hours(10));
        Check.same("bits", 0b110101, book.count(12));
        TideBook empty = dry("monk 1 pace 1;duty 0 from 0 to 9");
        Check.same("no one is there", 0, empty.hours(9));
        TideBook both = dry("monk 4 pace 1;monk 4 pace 1;duty 4 from 0 to 9;duty 4 from 3 to 9");
        Check.same("two duties in one call", 2, both.hours(4));
        Check.same("a row each", 2, both.count(14));
    }

    private static void lastHour() {
        Check.promise(20);
        TideBook book = dry("monk 0 pace 1 goal 11;period 24");
        for (int i = 0; i < 101; i++) {
            book.hours(100);
        }
        Check.same("hour", 9999, book.count(4));
        book.goal(0, 0);
        book.hours(2);
        Check.same("hours still go by", 9, book.monk(0, 0));
        Check.same("hour", 9999, book.count(4));
        Check.same("a way from the last hour on", 5, book.way(0, 5, 1, 0, 9999));
    }

    private static void stranded() {
        Check.promise(37);
        TideBook book = Check.coast("range 6 to 6;ground 0 6;ground 1 5;ground 2 6;ground 3 4;ground 4 6;ground 5 4;ground 11 6;"
                + "monk 0 pace 1;monk 2 pace 1;monk 4 pace 1;monk 11 pace 1", "monk 3 pace 1");
        // depths: 0 1 0 2 0 2 6 6 6 6 6 0
        Check.same("4 and 11 are", 0b01100, book.stranded());
        Check.rule(book, "wade 1 if monk > 1");
        Check.same("by what each wades", 0b01000, book.stranded());
        Check.rule(book, "wade 9");
        Check.same("none", 0, book.stranded());
        Check.same("of a new one", 0, new TideBook().stranded());
        TideBook beside = Check.coast("range 6 to 6;ground 0 5;ground 1 6;ground 2 2;ground 9 2;ground 10 6;ground 11 5;"
                + "monk 1 pace 1;monk 10 pace 1");
        Check.same("not beside what is no deeper than one wades", 0, beside.stranded());
        TideBook end = Check.coast("range 6 to 6;ground 0 6;ground 11 6;monk 0 pace 1;monk 11 pace 1;monk 5 pace 1");
        Check.same("the ends of the row count as deep", 0b011, end.stranded());
        // in hour 0 of tide 1 the water is at 6 again
        end.hours(12);
        Check.same("who is drowned is not", 0b011, end.stranded());
        Check.same("drowned", 0b100, end.count(13));
        TideBook low = Check.coast("range 6 to 6;monk 5 pace 1");
        low.wind(-5);
        Check.same("not dry", 0, low.stranded());
    }

    private static void ahead() {
        Check.promise(38);
        TideBook book = dry("monk 1 pace 1 goal 9;monk 3 pace 2 goal 0");
        Check.same("ahead(0, 0)", 1, book.ahead(0, 0));
        Check.same("ahead(0, 5)", 6, book.ahead(0, 5));
        Check.same("ahead(1, 1)", 1, book.ahead(1, 1));
        Check.same("ahead(1, 100)", 0, book.ahead(1, 100));
        Check.same("nothing stays", 0, book.count(4));
        Check.same("place", 1, book.monk(0, 0));
        Check.same("acts", 0, book.count(15));
        Check.noArgument("ahead(0, 101)", () -> book.ahead(0, 101));
        Check.noArgument("ahead(0, -1)", () -> book.ahead(0, -1));
        Check.noIndex("ahead(2, 0)", () -> book.ahead(2, 0));
        Check.noIndex("ahead(-1, 101)", () -> book.ahead(-1, 101));
        // wind as it is: 2 more water than 0 stops one who wades 1
        TideBook wind = Check.coast("range 0 to 0;storm 100;monk 0 pace 1 goal 5;ground 0 9");
        wind.wind(2);
        Check.same("wind is not drawn", 0, wind.ahead(0, 20));
        wind.wind(1);
        Check.same("wind is not drawn", 5, wind.ahead(0, 20));
        Check.same("seed as it was", 1, wind.seed(1));
    }

    private static void doomed() {
        Check.promise(39);
        TideBook book = Check.coast("monk 0 pace 1;monk 1 pace 1;monk 2 pace 1;ground 1 6;ground 2 7");
        // water 12, 10, .. 0, .. 10, 11: 5 deep on 6 in hour 12, 4 deep on 7
        Check.same("doomed(0)", 0, book.doomed(0));
        Check.same("doomed(1)", 0b001, book.doomed(1));
        Check.same("doomed(11)", 0b001, book.doomed(11));
        Check.same("doomed(12)", 0b011, book.doomed(12));
        Check.same("nothing stays", 0, book.count(13));
        book.hours(1);
        Check.same("who is drowned now is not", 0b010, book.doomed(11));
        Check.same("100 hours", 0b010, book.doomed(100));
        TideBook wind = Check.coast("range 0 to 0;storm 100;monk 0 pace 1");
        wind.wind(5);
        Check.same("wind as it is", 1, wind.doomed(1));
        Check.same("but drawn else", 0, wind.trial(1, true));
        Check.noArgument("doomed(101)", () -> book.doomed(101));
        Check.noArgument("doomed(-1)", () -> book.doomed(-1));
    }

    private static void done() {
        Check.promise(40);
        TideBook book = dry("monk 0 pace 1 goal 5;duty 0 from 0 to 9;duty 1 from 0 to 9;duty 3 from 0 to 9;duty 9 from 0 to 9");
        Check.same("done(0)", 0, book.done(0));
        Check.same("done(1)", 0b0010, book.done(1));
        Check.same("done(3)", 0b0110, book.done(3));
        Check.same("done(100)", 0b0110, book.done(100));
        Check.same("nothing stays", 0, book.count(12));
        book.hours(1);
        Check.same("what is kept now is, too", 0b0010, book.done(0));
        TideBook wind = Check.coast("range 0 to 0;storm 100;ground 0 9;monk 0 pace 1 goal 5;duty 1 from 0 to 0");
        wind.wind(2);
        Check.same("wind as it is", 0, wind.done(1));
        Check.same("but drawn else", 1, wind.trial(1, false));
        Check.noArgument("done(101)", () -> book.done(101));
        Check.noArgument("done(-1)", () -> book.done(-1));
    }

    private static void lost() {
        Check.promise(41);
        TideBook book = dry("monk 0 pace 1;duty 0 from 0 to 0;duty 1 from 0 to 0;duty 1 from 0 to 1;duty 1 from 5 to 9");
        Check.same("lost at first", 0, book.lost());
        book.hours(1);
        Check.same("hour 1", 0b0010, book.lost());
        book.hours(1);
        Check.same("hour 2", 0b0110, book.lost());
        book.anew(0);
        Check.same("told anew", 0b0111, book.lost());
        book.hours(7);
        Check.same("hour 9", 0b0111, book.lost());
        book.hours(1);
        Check.same("hour 10", 0b1111, book.lost());
    }

    private static void led() {
        Check.promise(46);
        TideBook book = dry("monk 3 pace 1;duty 3 from 0 to 9;duty 3 from 4 to 9;duty 5 from 0 to 9");
        Check.same("none: rows", 0, book.led(3, false));
        Check.same("none: hour", -1, book.led(3, true));
        book.hours(5);
        Check.same("rows", 2, book.led(3, false));
        Check.same("the latest hour", 4, book.led(3, true));
        Check.same("another place", 0, book.led(5, false));
        Check.same("another place", -1, book.led(5, true));
        Check.noIndex("led(12, true)", () -> book.led(12, true));
        Check.noIndex("led(-1, false)", () -> book.led(-1, false));
        TideBook wet = Check.coast("monk 11 pace 1");
        wet.hours(1);
        Check.same("one who drowned", 1, wet.led(11, false));
        Check.same("in hour 0", 0, wet.led(11, true));
    }

    private static void log() {
        Check.promise(47);
        TideBook book = Check.coast("range 6 to 6;period 4;ground 3 2;monk 3 pace 1;monk 3 pace 1;monk 4 pace 1;"
                + "duty 4 from 3 to 3;duty 3 from 3 to 3;duty 3 from 0 to 0");
        // water 6, 3, 0, 3, 6: place 4 is 6 deep in hour 4
        book.hours(4);
        int[][] rows = {{3, 2, 1, 4}, {3, 1, 0, 3}, {3, 0, 0, 4}, {0, 2, 0, 3}};
        Check.same("rows", 4, book.count(14));
        for (int ago = 0; ago < rows.length; ago++) {
            for (int what = 0; what < 4; what++) {
                Check.same("log(" + ago + ", " + what + ")", rows[ago][what], book.log(ago, what));
            }
        }
        Check.same("none so long ago", -1, book.log(4, 0));
        Check.same("none below 0", -1, book.log(-1, 3));
        Check.fails("log(0, 4)", NoSuchElementException.class, () -> book.log(0, 4));
        Check.fails("log(99, -1)", NoSuchElementException.class, () -> book.log(99, -1));

        TideBook sixty = dry("monk 2 pace 4;duty 2 from 0 to 999;duty 2 from 0 to 999;duty 3 from 0 to 999");
        sixty.hours(1);
        for (int i = 0; i < 70; i++) {
            sixty.anew(0);
            sixty.hours(1);
        }
        Check.same("60 rows at most", 60, sixty.count(14));
        Check.same("the latest hour", 70, sixty.log(0, 0));
        Check.same("the oldest hour", 11, sixty.log(59, 0));
        Check.same("none beyond", -1, sixty.log(60, 0));
        Check.same("led", 60, sixty.led(2, false));
        sixty.undo();
        Check.same("the oldest is there again", 10, sixty.log(59, 0));
        Check.same("still 60", 60, sixty.count(14));
        Check.same("the latest hour", 69, sixty.log(0, 0));
    }
}

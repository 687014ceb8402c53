import java.util.NoSuchElementException;

/** The law: what a monk wades, when it waits, what it tires by; where a text is wrong. */
public final class LawTest {
    public static void main(String[] args) {
        lines();
        terms();
        conditions();
        nesting();
        wrongPlaces();
        monks();
        Check.finish();
    }

    /** One monk at place 2 (ground 4) in hour 0 with water 12: its depth is 8. */
    private static TideBook deep() {
        return Check.coast("ground 2 4;monk 2 pace 1 goal 5");
    }

    private static void lines() {
        Check.promise(5);
        TideBook book = deep();
        Check.same("lines without a law", -1, book.count(3));
        Check.same("wades without a law", 1, book.monk(0, 5));
        Check.same("an empty law", 0, Check.rule(book, ""));
        Check.same("lines of it", 0, book.count(3));
        Check.same("wades by it", 1, book.monk(0, 5));
        Check.same("blanks alone", 0, Check.rule(book, "    "));
        Check.same("a law", 6, Check.rule(book, "wade 3;wade 2 if depth > 7;wade 9 if depth > 8;tire 4;tire 5 if there;wait if there"));
        Check.same("fault", -1, book.fault());
        Check.same("wades", 6, book.monk(0, 5));
        Check.same("waits", 0, book.monk(0, 6));
        Check.same("tires by", 4, book.monk(0, 7));
        Check.same("a law in its place", 1, Check.rule(book, " wait "));
        Check.same("wades", 1, book.monk(0, 5));
        Check.same("waits", 1, book.monk(0, 6));
        Check.same("tires by", 0, book.monk(0, 7));
        Check.wrongLaw(book, "wade 5;wade 9;tire 3 if", 23);
        Check.same("the law stays as it was", 1, book.count(3));
        Check.same("wades", 1, book.monk(0, 5));
        Check.same("the tape is used up", 20, book.feed(0, 0, 0, 0, 0));
        book.end(0);
        Check.same("wades twelve times nine", 12, Check.rule(book, "wade 9" + ";wade 9".repeat(11)));
        Check.same("wades", 109, book.monk(0, 5));
        Check.wrongLaw(book, "wade 9" + ";wade 9".repeat(11) + ";wade 9", 84);
        Check.wrongLaw(book, "wade 9" + ";wade 9".repeat(11) + "; ", 85);
        Check.same("few blanks", 1, Check.rule(book, "wade5if1<2and3>2or not there"));
        Check.same("wades", 6, book.monk(0, 5));
        Check.wrongLaw(book, "wade5if1<2and3>2ornot there", 16);
    }

    private static boolean holds(TideBook book, int monk, String condition) {
        Check.rule(book, "wait if " + condition);
        return book.monk(monk, 6) == 1;
    }

    private static void terms() {
        Check.promise(5);
        TideBook book = Check.coast("ground 2 4;ground 3 19;monk 3 pace 1;monk 2 pace 1;monk 3 pace 1;period 10", "");
        Check.rule(book, "tire 1;wade 9;wade 9");
        book.hours(27);
        // hour 27: tide 2, step 7; range 6 + 6 * 10 / 14 = 10; water 10 * 4 / 10 = 4
        Check.same("water", 4, book.water(27));
        Check.yes("monk is its number", holds(book, 2, "monk > 1 and monk < 3"));
        Check.yes("place", holds(book, 1, "place > 1 and place < 3"));
        Check.yes("depth 0", holds(book, 1, "not depth > 0"));
        book.wind(3);
        Check.yes("depth 3", holds(book, 1, "depth > 2 and depth < 4"));
        Check.yes("depth on high ground", holds(book, 0, "not depth > 0"));
        Check.yes("step", holds(book, 1, "step > 6 and step < 8"));
        Check.yes("tired", holds(book, 1, "tired > 8 and tired < 10"));
        Check.yes("hour is of the day", holds(book, 1, "hour > 2 and hour < 4"));
        Check.yes("rising", holds(book, 1, "rising"));
        Check.yes("there", holds(book, 1, "there"));
        book.goal(1, 5);
        Check.no("there", holds(book, 1, "there"));
        Check.yes("sums", holds(book, 1, "place + step + 1 < 11 and 10 < place + step + 2"));
        Check.yes("numbers of three digits", holds(book, 1, "999 + 1 > 999"));

        TideBook tide = Check.coast("period 5;monk 0 pace 1;ground 0 19");
        Check.no("rising at 0", holds(tide, 0, "rising"));
        tide.hours(2);
        Check.no("rising at 2 of 5", holds(tide, 0, "rising"));
        tide.hours(1);
        Check.yes("rising at 3 of 5", holds(tide, 0, "rising"));
        TideBook even = Check.coast("period 6;monk 0 pace 1;ground 0 19");
        even.hours(3);
        Check.yes("rising at 3 of 6", holds(even, 0, "rising"));
    }

    private static void conditions() {
        Check.promise(5);
        TideBook book = deep();
        String t = "0 < 1";
        String f = "1 < 0";
        Check.yes("<", holds(book, 0, t));
        Check.no("<", holds(book, 0, "1 < 1"));
        Check.no(">", holds(book, 0, "1 > 1"));
        Check.yes(">", holds(book, 0, "2 > 1"));
        Check.yes("and binds more than or, ahead", holds(book, 0, t + " or " + t + " and " + f));
        Check.yes("and binds more than or, behind", holds(book, 0, f + " and " + f + " or " + t));
        Check.no("( )", holds(book, 0, "(" + t + " or " + t + ") and " + f));
        Check.yes("not binds more than or", holds(book, 0, "not " + t + " or " + t));
        Check.no("not of ( )", holds(book, 0, "not (" + t + " or " + t + ")"));
        Check.no("not binds more than and", holds(book, 0, "not " + f + " and " + f));
        Check.yes("or of three", holds(book, 0, f + " or " + f + " or " + t));
        Check.no("or of three", holds(book, 0, f + " or " + f + " or " + f));
        Check.no("and of three", holds(book, 0, t + " and " + t + " and " + f));
        Check.yes("or of ands", holds(book, 0, t + " and " + f + " or " + t + " and " + t + " or " + f));
        Check.yes("not not", holds(book, 0, "not not " + t));
    }

    private static void nesting() {
        Check.promise(5);
        TideBook book = deep();
        Check.yes("6 nots", holds(book, 0, "not not not not not not 0<1"));
        Check.yes("6 ( )", holds(book, 0, "((((((0<1))))))"));
        Check.yes("3 of each", holds(book, 0, "not(not(not(1<0)))"));
        Check.no("many side by side", holds(book, 0, "not (0<1) and not (0<1) and not (0<1) and (not 0<1) or not (not 1<0)"));
        Check.yes("deep on both sides of an or", holds(book, 0, "(((((1<0 or (1<0 or 1+1+1<1))))))or 0<1 and ((((((0<1 and 0<1 or 1<0))))))"));
        Check.promise(6);
        Check.wrongLaw(book, "wait if (((((((0<1)))))))", 14);
        Check.wrongLaw(book, "wait if not(not(not(not 0<1)))", 20);
        Check.wrongLaw(book, "wait if not(not(not((1<0))))", 20);
        Check.same("six again behind a closed one", 1, Check.rule(book, "wait if ((((((0<1)))))) and not not not not not not 0<1"));
    }

    private static void wrongPlaces() {
        Check.promise(6);
        TideBook book = deep();
        Check.wrongLaw(book, "wades 1", 0);
        Check.wrongLaw(book, "  wad 1", 2);
        Check.wrongLaw(book, "wade 10", 5);
        Check.wrongLaw(book, "tire 10", 5);
        Check.wrongLaw(book, "wade 0010", 5);
        Check.wrongLaw(book, "wade one", 5);
        Check.wrongLaw(book, "wade 1 wade 1", 7);
        Check.wrongLaw(book, "wade 1 if", 9);
        Check.wrongLaw(book, "wade 1 if  ", 11);
        Check.wrongLaw(book, "wade 1 if if", 10);
        Check.wrongLaw(book, "wait if there there", 14);
        Check.wrongLaw(book, "wait if there)", 13);
        Check.wrongLaw(book, "wait if ()", 9);
        Check.wrongLaw(book, "wait if (there;wait", 14);
        Check.wrongLaw(book, "wait if there and", 17);
        Check.wrongLaw(book, "wait if there or;", 16);
        Check.wrongLaw(book, "wait if 1", 9);
        Check.wrongLaw(book, "wait if 1 + < 2", 12);
        Check.wrongLaw(book, "wait if 1 < 2 < 3", 14);
        Check.wrongLaw(book, "wait if 1 < (2)", 12);
        Check.wrongLaw(book, "wait if (1) < 2", 10);
        Check.wrongLaw(book, "wait if 1 = 2", 10);
        Check.wrongLaw(book, "wait if 1000 < 2", 8);
        Check.wrongLaw(book, "wait if 1 < 2000", 12);
        Check.wrongLaw(book, "wait if rising < 2", 15);
        Check.wrongLaw(book, "wait if step < there", 15);
        Check.wrongLaw(book, "wait if water < 2", 8);
        Check.wrongLaw(book, "wait if not", 11);
        Check.wrongLaw(book, "wait if not or there", 12);
        Check.wrongLaw(book, "wait if stepp < 2", 8);
        Check.wrongLaw(book, "wait if Step < 2", 8);
        Check.wrongLaw(book, "storm 5", 0);
        Check.wrongLaw(book, "wait;;wait", 5);
        Check.wrongLaw(book, "wait" + (char) 0, 4);
        Check.wrongLaw(book, "wait" + (char) 225, 4);
        Check.same("no law came of these", -1, book.count(3));
        Check.same("fault() twice", 4, book.fault());
    }

    private static void monks() {
        Check.promise(8);
        TideBook book = Check.coast("ground 2 4;monk 2 pace 3 goal 9;monk 0 pace 1");
        Check.rule(book, "wade 2 if monk > 0;wait if there;tire 3");
        int[][] want = {{2, 9, 3, 0, 0, 1, 0, 3}, {0, 0, 1, 0, 0, 3, 1, 3}};
        for (int monk = 0; monk < 2; monk++) {
            for (int what = 0; what < 8; what++) {
                Check.same("monk(" + monk + ", " + what + ")", want[monk][what], book.monk(monk, what));
            }
        }
        book.hours(1);
        Check.same("tired", 3, book.monk(0, 3));
        Check.same("drowned", 1, book.monk(1, 4));
        Check.same("tires by, drowned", 3, book.monk(1, 7));
        Check.fails("monk(0, 8)", NoSuchElementException.class, () -> book.monk(0, 8));
        Check.fails("monk(0, -1)", NoSuchElementException.class, () -> book.monk(0, -1));
        Check.noIndex("monk(2, 0)", () -> book.monk(2, 0));
        Check.noIndex("monk(2, 8)", () -> book.monk(2, 8));
        Check.noIndex("monk(-1, 0)", () -> book.monk(-1, 0));
    }
}

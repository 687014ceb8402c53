/** The edges of promise 5, of promise 6 with texts of the law, and of what a law tells of a monk. */
public final class Edge3LawTest {
    public static void main(String[] args) {
        usesTheTapeUp();
        wrongText();
        inPlaceOfTheOneBefore();
        twelveLines();
        lineForms();
        conditions();
        parts();
        sums();
        numbers();
        depthNow();
        stepNow();
        hourModulo24();
        rising();
        risingWithOthers();
        there();
        tiredAndPlace();
        wades();
        waits();
        tires();
        words();
        blanks();
        noLine();
        sixDeep();
        seventhDeep();
        cannotStandThere();
        moreMustCome();
        firstWordOfTooMany();
        nothingStays();
        Check.finish();
    }

    private static void right(String text, int lines) {
        TideBook book = new TideBook();
        Check.same("law() of '" + text + "'", lines, Check.rule(book, text));
        Check.same("fault() of it", TideBook.NONE, book.fault());
        Check.same("LINES of it", lines, book.count(3));
    }

    private static void wrong(String text, int fault) {
        TideBook book = new TideBook();
        Check.wrongLaw(book, text, fault);
        Check.same("LINES of a wrong one", TideBook.NONE, book.count(3));
    }

    private static boolean holds(TideBook book, int monk, String condition) {
        Check.rule(book, "wait if " + condition);
        return book.monk(monk, 6) == 1;
    }

    /** That a term is just this number: not below it, not above it. */
    private static void is(TideBook book, int monk, String term, int number) {
        Check.yes(term + " is below " + (number + 1), holds(book, monk, term + " < " + (number + 1)));
        Check.no(term + " is below " + number, holds(book, monk, term + " < " + number));
        Check.no(term + " is above " + number, holds(book, monk, term + " > " + number));
    }

    private static void usesTheTapeUp() {
        Check.sentence(5, "Uses the TAPE up: THE LAW: how many LINES.");
        TideBook book = new TideBook();
        Check.same("three", 3, Check.rule(book, "wait;wade 1;tire 1"));
        Check.no("a byte is left of a right one", book.end(1));
        Check.same("none on an empty TAPE", 0, book.law());
        Check.wrongLaw(book, "wait;x", 5);
        Check.no("a byte is left of a wrong one", book.end(1));
        for (int i = 0; i < 20; i++) {
            Check.same("as often as one likes", 1, Check.rule(book, "wait"));
        }
        Check.same("texts of THE COAST", 0, book.count(2));
    }

    private static void wrongText() {
        Check.sentence(5, "IllegalArgumentException: the text is wrong.");
        Check.wrongLaw(new TideBook(), "waits", 0);
        Check.wrongLaw(new TideBook(), "storm 1", 0);
        Check.wrongLaw(new TideBook(), "wade 10", 5);
        Whole.wrongText("law", "wade", 4, Whole::rich);
    }

    private static void inPlaceOfTheOneBefore() {
        Check.sentence(5, "THE LAW (a text, in place of the one before)");
        TideBook book = Check.coast("monk 3 pace 1");
        Check.rule(book, "wade 3;wait;tire 2;wade 1");
        Check.same("LINES", 4, book.count(3));
        Check.rule(book, "tire 1");
        Check.same("LINES of the next", 1, book.count(3));
        Check.same("WADES", 1, book.monk(0, 5));
        Check.same("WAITS", 0, book.monk(0, 6));
        Check.same("TIRES by", 1, book.monk(0, 7));
        Check.rule(book, "");
        Check.same("LINES of none", 0, book.count(3));
        Check.same("TIRES by none", 0, book.monk(0, 7));
    }

    private static void twelveLines() {
        Check.sentence(5, "LINE { ; LINE }, at most 12: wade N");
        String twelve = "wade 1" + ";wade 1".repeat(10) + ";wade 9";
        TideBook book = Check.coast("monk 3 pace 1");
        Check.same("12 LINES", 12, Check.rule(book, twelve));
        Check.same("the 12th counts", 21, book.monk(0, 5));
        wrong(twelve + ";wade 1", twelve.length() + 1);
        right("wait", 1);
        wrong("wait;", 5);
        wrong(";wait", 0);
        wrong("wait;;wait", 5);
        wrong("wait wait", 5);
    }

    private static void lineForms() {
        Check.sentence(5, "wade N [ if C ] | wait [ if C ] | tire N [ if C ].");
        right("wade 0", 1);
        right("wade 9 if there", 1);
        right("wait", 1);
        right("wait if there", 1);
        right("tire 0", 1);
        right("tire 9 if there", 1);
        wrong("wade if there", 5);
        wrong("wait 1", 5);
        wrong("wait 1 if there", 5);
        wrong("tire if there", 5);
        wrong("wade 1 there", 7);
        wrong("wade 1 if there if there", 16);
        wrong("if there", 0);
    }

    private static void conditions() {
        Check.sentence(5, "C: ALL { or ALL }; ALL: ATOM { and ATOM }; ATOM: not ATOM | ( C ) | rising | there | SUM < SUM | SUM > SUM.");
        TideBook book = Check.coast("monk 3 pace 1 goal 4");
        String t = "1<2";
        String f = "there";
        Check.yes("one ATOM", holds(book, 0, t));
        Check.no("one ATOM", holds(book, 0, f));
        Check.no("rising in STEP 0", holds(book, 0, "rising"));
        String[] and = {t + " and " + t, t + " and " + f, f + " and " + t, f + " and " + f};
        String[] or = {t + " or " + t, t + " or " + f, f + " or " + t, f + " or " + f};
        for (int i = 0; i < 4; i++) {
            Check.same(and[i], i == 0 ? 1 : 0, holds(book, 0, and[i]) ? 1 : 0);
            Check.same(or[i], i < 3 ? 1 : 0, holds(book, 0, or[i]) ? 1 : 0);
        }
        Check.yes("t or t and f", holds(book, 0, t + " or " + t + " and " + f));
        Check.yes("f and t or t", holds(book, 0, f + " and " + t + " or " + t));
        Check.no("( t or t ) and f", holds(book, 0, "(" + t + " or " + t + ") and " + f));
        Check.no("f and ( t or t )", holds(book, 0, f + " and (" + t + " or " + t + ")"));
        Check.yes("t and f or t and t", holds(book, 0, t + " and " + f + " or " + t + " and " + t));
        Check.no("t and f or f and t", holds(book, 0, t + " and " + f + " or " + f + " and " + t));
        for (int bits = 0; bits < 8; bits++) {
            String a = (bits & 1) == 1 ? t : f;
            String b = (bits & 2) == 2 ? t : f;
            String c = (bits & 4) == 4 ? t : f;
            Check.same(a + " or " + b + " or " + c, bits > 0 ? 1 : 0, holds(book, 0, a + " or " + b + " or " + c) ? 1 : 0);
            Check.same(a + " and " + b + " and " + c, bits == 7 ? 1 : 0, holds(book, 0, a + " and " + b + " and " + c) ? 1 : 0);
        }
        Check.no("not of the first ATOM alone", holds(book, 0, "not " + t + " and " + t));
        Check.yes("not of the first ATOM alone", holds(book, 0, "not " + t + " or " + t));
        Check.no("not of a ( C )", holds(book, 0, "not (" + f + " or " + t + ")"));
        Check.yes("not not", holds(book, 0, "not not " + t));
        Check.no("1 < 1", holds(book, 0, "1 < 1"));
        Check.no("2 < 1", holds(book, 0, "2 < 1"));
        Check.no("1 > 1", holds(book, 0, "1 > 1"));
        Check.yes("2 > 1", holds(book, 0, "2 > 1"));
        Check.no("1 > 2", holds(book, 0, "1 > 2"));
    }

    private static void parts() {
        Check.sentence(5, "PART: NUMBER | monk | place | depth | step | tired | hour.");
        for (String part : new String[] {"0", "999", "monk", "place", "depth", "step", "tired", "hour"}) {
            right("wait if " + part + " < 1", 1);
            right("wait if 1 > " + part, 1);
        }
        for (String part : new String[] {"rising", "there", "water", "goal", "pace", "tide", "wind", "wade", "tire", "if", "(1)"}) {
            wrong("wait if 1 < " + part, 12);
        }
    }

    private static void sums() {
        Check.sentence(5, "SUM: PART { + PART }");
        TideBook book = Check.coast("monk 3 pace 1");
        is(book, 0, "3 + 4", 7);
        is(book, 0, "3 + 4 + 5", 12);
        is(book, 0, "place + place + 1", 7);
        Check.yes("on both sides", holds(book, 0, "2 + 2 < 2 + 3"));
        Check.no("on both sides", holds(book, 0, "2 + 3 < 2 + 3"));
        Check.yes("beyond three digits", holds(book, 0, "999 + 999 + 999 > 999 + 999 + 998"));
        // as long as the tape is: 999 ninety-six times, and one more on the other side
        String sum = "999" + "+999".repeat(95);
        Check.same("a text of 400 bytes", 400, ("wait if " + sum + ">" + " ".repeat(5) + "999").length());
        Check.yes("a sum of 96", holds(book, 0, sum + ">" + " ".repeat(5) + "999"));
        Check.no("a sum of 96", holds(book, 0, sum + "<" + " ".repeat(5) + "999"));
        wrong("wait if + 1 < 2", 8);
        wrong("wait if 1 + + 1 < 2", 12);
        wrong("wait if 1 + < 2", 12);
        wrong("wait if 1 1 < 2", 10);
        wrong("wait if 1 < 2 +", 15);
        wrong("wait if 1 - 1 < 2", 10);
    }

    private static void numbers() {
        Check.sentence(5, "All numbers are of 1 to 3 digits (N 0 to 9).");
        for (String kind : new String[] {"wade", "tire"}) {
            right(kind + " 0", 1);
            right(kind + " 9", 1);
            right(kind + " 009", 1);
            wrong(kind + " 10", 5);
            wrong(kind + " 0009", 5);
            wrong(kind + " 010", 5);
            wrong(kind + " -1", 5);
        }
        right("wait if 0 < 999", 1);
        right("wait if 000 < 001", 1);
        wrong("wait if 1000 > 1", 8);
        wrong("wait if 0000 < 1", 8);
        wrong("wait if 1 < 1000", 12);
        wrong("wait if 1 < 2 + 0001", 16);
        TideBook book = Check.coast("monk 3 pace 1");
        is(book, 0, "010", 10);
    }

    private static void depthNow() {
        Check.sentence(5, "Of a MONK: depth: DEPTH at its PLACE now");
        // water 12, 10, 8, ..
        TideBook book = Check.coast("range 12 to 12;ground 3 12;ground 4 11;ground 5 2;monk 3 pace 1;monk 4 pace 1;monk 5 pace 1");
        is(book, 0, "depth", 0);
        is(book, 1, "depth", 1);
        is(book, 2, "depth", 10);
        book.wind(-1);
        is(book, 1, "depth", 0);
        is(book, 2, "depth", 9);
        book.wind(0);
        Check.rule(book, "wade 9");
        book.hours(1);
        is(book, 1, "depth", 0);
        is(book, 2, "depth", 8);
    }

    private static void stepNow() {
        Check.sentence(5, "step: STEP now");
        TideBook book = Check.coast("period 4;monk 3 pace 1;ground 3 19");
        int[] steps = {0, 1, 2, 3, 0, 1};
        for (int step : steps) {
            is(book, 0, "step", step);
            book.hours(1);
        }
    }

    private static void hourModulo24() {
        Check.sentence(5, "hour: HOUR modulo 24");
        TideBook book = Check.coast("monk 3 pace 1;ground 3 19");
        is(book, 0, "hour", 0);
        book.hours(23);
        is(book, 0, "hour", 23);
        book.hours(1);
        is(book, 0, "hour", 0);
        book.hours(1);
        is(book, 0, "hour", 1);
        for (int i = 0; i < 100; i++) {
            book.hours(100);
        }
        // 9999 is 416 days and 15 hours
        is(book, 0, "hour", 15);
    }

    private static void rising() {
        Check.sentence(5, "rising: twice STEP is PERIOD at least");
        for (int period : new int[] {4, 5, 6, 23, 24}) {
            TideBook book = Check.coast("period " + period + ";monk 3 pace 1;ground 3 19");
            int half = (period + 1) / 2;
            Check.no("STEP 0 of " + period, holds(book, 0, "rising"));
            book.hours(half - 1);
            Check.no("STEP " + (half - 1) + " of " + period, holds(book, 0, "rising"));
            book.hours(1);
            Check.yes("STEP " + half + " of " + period, holds(book, 0, "rising"));
            book.hours(period - half - 1);
            Check.yes("the last STEP of " + period, holds(book, 0, "rising"));
            book.hours(1);
            Check.no("STEP 0 again", holds(book, 0, "rising"));
        }
    }

    private static void risingWithOthers() {
        Check.sentence(5, "ATOM: not ATOM | ( C ) | rising | there | SUM < SUM | SUM > SUM.");
        // in STEP 6 of 12, at its GOAL: each kind of ATOM holds, and joins with each
        String[] hold = {"rising", "there", "1 < 2", "2 > 1", "(rising)", "not 1 > 2"};
        for (String one : hold) {
            TideBook book = Check.coast("monk 3 pace 1;ground 3 19");
            book.hours(6);
            Check.yes(one, holds(book, 0, one));
            Check.no("not " + one, holds(book, 0, "not " + one));
            Check.yes("not not " + one, holds(book, 0, "not not " + one));
            for (String other : hold) {
                Check.yes(one + " and " + other, holds(book, 0, one + " and " + other));
                Check.yes(one + " or " + other, holds(book, 0, one + " or " + other));
            }
        }
    }

    private static void there() {
        Check.sentence(5, "there: it is at its GOAL.");
        TideBook book = Check.coast("range 0 to 0;monk 3 pace 1;monk 3 pace 1 goal 4;monk 3 pace 1 goal 2");
        Check.yes("at it", holds(book, 0, "there"));
        Check.no("one below it", holds(book, 1, "there"));
        Check.no("one above it", holds(book, 2, "there"));
        Check.rule(book, "");
        book.hours(1);
        Check.yes("it has come", holds(book, 1, "there"));
        Check.yes("it has come", holds(book, 2, "there"));
        book.goal(0, 4);
        Check.no("told away", holds(book, 0, "there"));
    }

    private static void tiredAndPlace() {
        Check.sentence(5, "PART: NUMBER | monk | place | depth | step | tired | hour");
        TideBook book = Check.coast("range 0 to 0;monk 0 pace 1 goal 1;monk 11 pace 1;monk 4 pace 1;monk 5 pace 1;monk 6 pace 1;monk 7 pace 1");
        is(book, 0, "place", 0);
        is(book, 1, "place", 11);
        is(book, 0, "monk", 0);
        is(book, 5, "monk", 5);
        is(book, 0, "tired", 0);
        Check.rule(book, "tire 9");
        book.hours(1);
        is(book, 0, "tired", 9);
        is(book, 0, "place", 1);
    }

    private static void wades() {
        Check.sentence(5, "WADES: 1 and the sum of N of all wade LINES that hold (1 without a text).");
        TideBook book = Check.coast("monk 3 pace 1;monk 4 pace 1");
        Check.same("without a text", 1, book.monk(0, 5));
        Check.rule(book, "");
        Check.same("without a LINE", 1, book.monk(0, 5));
        Check.rule(book, "wait;tire 5");
        Check.same("without a wade LINE", 1, book.monk(0, 5));
        Check.rule(book, "wade 0");
        Check.same("and 0", 1, book.monk(0, 5));
        Check.rule(book, "wade 2;wade 3 if monk > 0;wade 4 if there");
        Check.same("two of three", 7, book.monk(0, 5));
        Check.same("all three", 10, book.monk(1, 5));
        Check.rule(book, "wade 9" + ";wade 9".repeat(11));
        Check.same("all of twelve", 109, book.monk(1, 5));
    }

    private static void waits() {
        Check.sentence(5, "WAITS: some wait LINE holds.");
        TideBook book = Check.coast("monk 3 pace 1;monk 4 pace 1");
        Check.same("without a text", 0, book.monk(0, 6));
        Check.rule(book, "wade 5;tire 5");
        Check.same("without a wait LINE", 0, book.monk(0, 6));
        Check.rule(book, "wait if monk > 0;wait if monk > 1");
        Check.same("none of two", 0, book.monk(0, 6));
        Check.same("one of two", 1, book.monk(1, 6));
        Check.rule(book, "wait if monk > 1;wait if monk > 0");
        Check.same("the other one of two", 1, book.monk(1, 6));
        Check.rule(book, "wait;wait");
        Check.same("two of two", 1, book.monk(0, 6));
    }

    private static void tires() {
        Check.sentence(5, "TIRES by: the sum of N of all tire LINES that hold.");
        TideBook book = Check.coast("monk 3 pace 1;monk 4 pace 1");
        Check.same("without a text", 0, book.monk(0, 7));
        Check.rule(book, "wade 5;wait");
        Check.same("without a tire LINE", 0, book.monk(0, 7));
        Check.rule(book, "tire 0;tire 2;tire 3 if monk > 0");
        Check.same("two of three", 2, book.monk(0, 7));
        Check.same("all three", 5, book.monk(1, 7));
        Check.rule(book, "tire 9" + ";tire 9".repeat(11));
        Check.same("all of twelve", 108, book.monk(1, 7));
    }

    private static void words() {
        Check.sentence(5, "Words are as long as a to z go on");
        right("wade5if1<2and3>2or there", 1);
        right("wait if not(there)and rising", 1);
        wrong("wade5if1<2and3>2orthere", 16);
        wrong("wait if notthere", 8);
        wrong("wait ifthere", 5);
        wrong("wait if risingand there", 8);
        wrong("waitif there", 0);
        wrong("wait if stepp < 1", 8);
        wrong("wait if ste < 1", 8);
        wrong("wait if tire < 1", 8);
        wrong("Wait", 0);
        wrong("wait" + (char) 96, 4);
        wrong("wait" + (char) 123, 4);
    }

    private static void blanks() {
        Check.sentence(5, "between all there may be blanks (32), also ahead and behind.");
        right("   wait   if   (   1   <   2   )   ;   wade   3   ", 2);
        right("wait if(1<2);wade3", 2);
        right(" ".repeat(396) + "wait", 1);
        right("wait" + " ".repeat(396), 1);
        for (int sign : new int[] {0, 9, 10, 13, 31, 33, 160, 255}) {
            wrong("wait" + (char) sign + "if there", 4);
            wrong((char) sign + "wait", 0);
            wrong("wait" + (char) sign, 4);
        }
    }

    private static void noLine() {
        Check.sentence(5, "A text that is empty, or blanks alone, has no LINE.");
        right("", 0);
        right(" ", 0);
        right(" ".repeat(400), 0);
        wrong(" ;", 1);
    }

    private static void sixDeep() {
        Check.sentence(5, "( and not within one another at most 6 deep.");
        TideBook book = Check.coast("monk 3 pace 1");
        Check.yes("six (", holds(book, 0, "((((((there))))))"));
        Check.yes("six not", holds(book, 0, "not not not not not not there"));
        Check.no("five not", holds(book, 0, "not not not not not there"));
        Check.no("three not, three (", holds(book, 0, "not (not (not (there)))"));
        Check.yes("four not, two (", holds(book, 0, "not not (not not (there))"));
        Check.yes("six deep again behind an and", holds(book, 0, "((((((there)))))) and ((((((there))))))"));
        Check.yes("six deep again behind an or", holds(book, 0, "not there or not not not not not not there"));
        Check.yes("six deep again within a (", holds(book, 0, "((((((there)))) and ((((there))))))"));
        Check.yes("six deep in each LINE", Check.rule(book, "wait if ((((((there))))));wait if ((((((there))))))") == 2);
        // as much as can stand open at once
        Check.yes("all levels open", holds(book, 0, "1>2 or 1<2 and (1>2 or 1<2 and (1>2 or 1<2 and (1>2 or 1<2 and (1>2 or 1<2 and (1>2 or 1<2 and 1+1<1+1+1)))))"));
        Check.no("all levels open", holds(book, 0, "1>2 or 1<2 and (1>2 or 1<2 and (1>2 or 1<2 and (1>2 or 1<2 and (1>2 or 1<2 and (1>2 or 1<2 and 1+1+1<1+1)))))"));
    }

    private static void seventhDeep() {
        Check.sentence(6, "the ( or not that is a 7th one deep;");
        wrong("wait if (((((((there)))))))", 14);
        wrong("wait if not not not not not not not there", 32);
        wrong("wait if not(not(not(not there)))", 20);
        wrong("wait if (not(not(not(there))))", 20);
        wrong("wait if ((((((there)))))) and (((((((there)))))))", 36);
        wrong("wait if ((((((there or (there)))))))", 23);
        wrong("wait if ((((((there or not there))))))", 23);
        // the 7th one, though what comes behind it is wrong, too
        wrong("wait if (((((((", 14);
        wrong("wait if ((((((", 14);
    }

    private static void cannotStandThere() {
        Check.sentence(6, "The first wrong byte: the begin of the first thing that cannot stand there");
        wrong("x", 0);
        wrong("7", 0);
        wrong("(wait)", 0);
        wrong("wade x", 5);
        wrong("wade (", 5);
        wrong("wade 1 x", 7);
        wrong("wade 1 7", 7);
        wrong("wade 1,", 6);
        wrong("wade 1 if x", 10);
        wrong("wade 1 if ;", 10);
        wrong("wade 1 if )", 10);
        wrong("wade 1 if and", 10);
        wrong("wade 1 if if", 10);
        wrong("wade 1 if < 1", 10);
        wrong("wade 1 if there and or there", 20);
        wrong("wade 1 if there or and there", 19);
        wrong("wade 1 if there there", 16);
        wrong("wade 1 if there not there", 16);
        wrong("wade 1 if there (there)", 16);
        wrong("wade 1 if there)", 15);
        wrong("wade 1 if (there))", 17);
        wrong("wade 1 if (there;", 16);
        wrong("wade 1 if ()", 11);
        wrong("wade 1 if (1) < 2", 12);
        wrong("wade 1 if 1 < (2)", 14);
        wrong("wade 1 if 1 < 2 < 3", 16);
        wrong("wade 1 if 1 = 2", 12);
        wrong("wade 1 if 1 <= 2", 13);
        wrong("wade 1 if 1 and 2", 12);
        wrong("wade 1 if rising < 1", 17);
        wrong("wade 1 if not 1", 15);
        wrong("wade 1 if not ;", 14);
        wrong("wade 1 if there < 1", 16);
        // of several the first
        wrong("wade 10;wade 10", 5);
        wrong("wait;wade 10;x", 10);
    }

    private static void moreMustCome() {
        Check.sentence(6, "or the text's length, if more must come.");
        String whole = "wade 1 if not (1 + step < 2 + hour and there or 3 > monk)";
        right(whole, 1);
        String[] words = whole.split(" ");
        String begun = "";
        for (int i = 0; i + 1 < words.length; i++) {
            begun = i == 0 ? words[0] : begun + " " + words[i];
            if (i != 1) {
                wrong(begun, begun.length());
                wrong(begun + "  ", begun.length() + 2);
            }
        }
        wrong("wait if (there", 14);
        wrong("wait if ((there)", 16);
        wrong("wait;", 5);
        wrong("wait ;  ", 8);
        wrong(" ".repeat(396) + "wade", 400);
        String twelve = "wait" + ";wait".repeat(11);
        wrong(twelve + ";", twelve.length() + 1);
    }

    private static void firstWordOfTooMany() {
        Check.sentence(6, "of a LINE, a MONK, a DUTY too many, the first word");
        String twelve = "wait" + ";wait".repeat(11);
        right(twelve, 12);
        wrong(twelve + ";wait", twelve.length() + 1);
        wrong(twelve + " ;  wait", twelve.length() + 4);
        wrong(twelve + ";wade 99", twelve.length() + 1);
        wrong(twelve + ";wait;wait", twelve.length() + 1);
    }

    private static void nothingStays() {
        Check.sentence(5, "Of a wrong text nothing stays.");
        Whole.wrongText("law", "wade 9;tire 9;wait;x", 19, Whole::rich);
        Whole.wrongText("law", "wade 9;tire 9;wait if there and", 31, Whole::rich);
        Whole.wrongText("law", "x", 0, Whole::rich);
        Whole.wrongText("law", "wait" + ";wade 5".repeat(12), 82, Whole::rich);
        TideBook without = Check.coast("monk 3 pace 1");
        Check.wrongLaw(without, "wade 9;tire 9;wait;", 19);
        Check.same("LINES", TideBook.NONE, without.count(3));
        Check.same("WADES", 1, without.monk(0, 5));
        Check.same("WAITS", 0, without.monk(0, 6));
        Check.same("TIRES by", 0, without.monk(0, 7));
    }
}

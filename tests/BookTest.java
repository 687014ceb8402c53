/** The book: printed hours, errors, editions, and what came. */
public final class BookTest {
    public static void main(String[] args) {
        printed();
        errors();
        editions();
        came();
        amends();
        witness();
        toldTapes();
        clash();
        blank();
        Check.finish();
    }

    private static void printed() {
        Check.promise(13);
        TideBook book = Check.coast("period 9;edition less 2;error 0 less 3;error 4 more 1");
        Check.same("printed(0)", -5, book.printed(0));
        Check.same("printed(1)", 7, book.printed(1));
        Check.same("printed(4)", 35, book.printed(4));
        Check.same("printed(11)", 97, book.printed(11));
        Check.noArgument("printed(12)", () -> book.printed(12));
        Check.noArgument("printed(-1)", () -> book.printed(-1));
    }

    private static void errors() {
        Check.promise(16);
        TideBook book = Check.coast("edition more 1");
        Check.same("error(3, -3)", 34, book.error(3, -3));
        Check.same("printed then", 34, book.printed(3));
        Check.same("another tide", 25, book.printed(2));
        Check.same("error(3, 3)", 40, book.error(3, 3));
        Check.same("error(11, 0)", 133, book.error(11, 0));
        Check.same("acts", 3, book.count(15));
        Check.noArgument("error(12, 0)", () -> book.error(12, 0));
        Check.noArgument("error(-1, 0)", () -> book.error(-1, 0));
        Check.noArgument("error(0, 4)", () -> book.error(0, 4));
        Check.noArgument("error(0, -4)", () -> book.error(0, -4));
        Check.same("acts still", 3, book.count(15));
    }

    private static void editions() {
        Check.promise(17);
        TideBook book = new TideBook();
        Check.same("edition(-3)", 0, book.edition(-3));
        Check.same("printed(1)", 9, book.printed(1));
        Check.same("edition(3)", -3, book.edition(3));
        Check.same("count", 6, book.count(10));
        Check.noArgument("edition(4)", () -> book.edition(4));
        Check.noArgument("edition(-4)", () -> book.edition(-4));
        Check.same("edition as it was", 3, book.edition(0));
        Check.same("acts", 3, book.count(15));
    }

    private static int came(TideBook book, boolean least, int... told) {
        Check.tape(book, told);
        return book.came(least);
    }

    private static void came() {
        Check.promise(31);
        TideBook book = Check.coast("edition more 1;error 4 more 2");
        Check.same("none told: how many", 7, came(book, false));
        Check.same("none told: the least", -3, came(book, true));
        Check.same("one, as printed", 1, came(book, false, 0, 6));
        Check.same("one, as printed: which", 1, came(book, true, 0, 6));
        Check.same("two hours later", 3, came(book, true, 0, 8));
        Check.same("three hours later: none", 0, came(book, false, 0, 9));
        Check.same("three hours later: none", -9, came(book, true, 0, 9));
        Check.same("four hours sooner, misprinted too", -3, came(book, true, 4, 2));
        Check.same("five hours sooner: none", -9, came(book, true, 4, 1));
        Check.same("two that agree", -1, came(book, true, 4, 4, 11, 4));
        Check.same("two that do not", -9, came(book, true, 4, 4, 11, 5));
        Check.same("one told twice unlike", 0, came(book, false, 4, 4, 4, 5));
        Check.same("edition as it was", 4, book.count(10));
    }

    private static int amends(TideBook book, boolean edition, int... told) {
        Check.tape(book, told);
        return book.amends(edition);
    }

    private static void amends() {
        Check.promise(32);
        TideBook book = Check.coast("edition less 1");
        Check.same("none told: how many", 0, amends(book, false));
        Check.same("none told: edition", -3, amends(book, true));
        Check.same("all agree", 0, amends(book, false, 0, 7, 1, 7));
        Check.same("all agree: edition", 0, amends(book, true, 0, 7, 1, 7));
        Check.same("two of three", 1, amends(book, false, 0, 7, 1, 9, 2, 9));
        Check.same("two of three: edition", 2, amends(book, true, 0, 7, 1, 9, 2, 9));
        Check.same("a draw: the least", -2, amends(book, true, 0, 7, 1, 5));
        Check.same("a draw: how many", 1, amends(book, false, 0, 7, 1, 5));
        Check.same("none fits any", 2, amends(book, false, 0, 12, 1, 12));
        Check.same("none fits any: edition", -3, amends(book, true, 0, 12, 1, 12));
        Check.same("the same row twice counts twice", 1, amends(book, false, 0, 7, 0, 7, 1, 5));
        Check.same("and wins", 0, amends(book, true, 0, 7, 0, 7, 1, 5));
        Check.same("nothing is told anew", 2, book.count(10));
    }

    private static int witness(TideBook book, int... told) {
        Check.tape(book, told);
        return book.witness();
    }

    private static void witness() {
        Check.promise(33);
        TideBook book = Check.coast("error 2 more 1;error 5 less 2;error 7 more 2;error 9 less 3");
        Check.same("none told", 9, witness(book));
        Check.same("9 told", 5, witness(book, 9, 6));
        Check.same("9 and 5 told", 7, witness(book, 5, 0, 9, 12));
        Check.same("9, 5, 7 told", 2, witness(book, 5, 0, 9, 12, 7, 6));
        Check.same("9, 5, 7, 2 told", 0, witness(book, 5, 0, 9, 12, 7, 6, 2, 6));
        Check.same("0, too", 1, witness(book, 5, 0, 9, 12, 7, 6, 2, 6, 0, 6));
        Check.same("all told", -1, witness(book, 0, 6, 1, 6, 2, 6, 3, 6, 4, 6, 5, 6, 6, 6, 7, 6, 8, 6, 9, 6, 10, 6, 11, 6));
        Check.same("a book without errors", 0, witness(new TideBook()));
    }

    private static void toldTapes() {
        int[] twenty = new int[40];
        int[] more = new int[42];
        for (int promise = 31; promise <= 33; promise++) {
            int call = promise;
            Check.promise(promise);
            TideBook book = new TideBook();
            Check.tape(book, twenty);
            Check.same("20 rows", call == 31 ? 0 : call == 32 ? 20 : 1, told(book, call));
            int[][] wrong = {more, {0}, {0, 6, 0}, {12, 6}, {0, 13}, {255, 6}, {0, 255}, {0, 6, 12, 6}, {0, 6, 1, 13}};
            for (int[] bytes : wrong) {
                Check.tape(book, bytes);
                Check.noArgument("a wrong tape", () -> told(book, call));
                Check.no("it is used up", book.end(1));
            }
            Check.tape(book, 0, 6);
            told(book, call);
            Check.no("a right one is used up", book.end(1));
            Check.same("fault() is of texts alone", -1, book.fault());
        }
    }

    private static int told(TideBook book, int promise) {
        return promise == 31 ? book.came(false) : promise == 32 ? book.amends(false) : book.witness();
    }

    private static void clash() {
        Check.promise(34);
        TideBook book = new TideBook();
        // tides at 0, 12, 24, ..: less 1 puts the even ones on the day before
        Check.same("clash(0, -1)", 0b010101010101, book.clash(0, -1));
        Check.same("clash(-1, 0)", 0b010101010101, book.clash(-1, 0));
        Check.same("clash(-3, -1)", 0, book.clash(-3, -1));
        Check.same("clash(3, 0)", 0, book.clash(3, 0));
        Check.same("clash(2, 2)", 0, book.clash(2, 2));
        book.error(0, -3);
        Check.same("below 0 is one day", 0b010101010100, book.clash(-3, 2));
        Check.same("0 is another one", 0b010101010101, book.clash(-3, 3));
        book.error(1, 3);
        book.edition(3);
        Check.same("whatever EDITION is", 0b010101010100, book.clash(-3, 2));
        TideBook late = Check.coast("period 23;error 1 more 1");
        Check.same("an error counts", 0b0011, late.clash(0, -1) & 0b1111);
        Check.noArgument("clash(4, 0)", () -> book.clash(4, 0));
        Check.noArgument("clash(0, -4)", () -> book.clash(0, -4));
    }

    private static void blank() {
        Check.promise(35);
        TideBook book = Check.coast("period 6;error 4 more 3;error 5 less 2;error 8 more 3;error 9 less 3");
        // tide 4: 27, tide 5: 28; tide 8: 51, tide 9: 51
        Check.same("not above the one before", 9, book.blank());
        book.error(5, -3);
        Check.same("the first", 5, book.blank());
        book.error(4, 2);
        book.error(8, 2);
        Check.same("none", -1, book.blank());
        TideBook short4 = Check.coast("period 4;error 0 more 3;error 1 less 3");
        Check.same("tide 1", 1, short4.blank());
        Check.same("of a new one", -1, new TideBook().blank());
    }
}

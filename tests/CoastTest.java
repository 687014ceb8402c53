/** Texts of the coast, where they are wrong, and what they change. */
public final class CoastTest {
    public static void main(String[] args) {
        lines();
        severalTexts();
        tooMany();
        wrongPlaces();
        grounds();
        duties();
        Check.finish();
    }

    private static void lines() {
        Check.promise(4);
        TideBook book = Check.coast("ground 11 19;period 24 ; round 28; range 0 to 30;monk 3 pace 4 goal 11;"
                + "monk 7pace1;duty 2 from 0 to 999;storm 100;edition less 3;error 11 more 3;error 0 less 0");
        Check.same("fault", -1, book.fault());
        Check.same("ground", 19, book.ground(11));
        Check.same("period", 24, book.count(5));
        Check.same("round", 28, book.count(6));
        Check.same("neap", 0, book.count(7));
        Check.same("spring", 30, book.count(8));
        Check.same("storm", 100, book.count(11));
        Check.same("edition and 3", 0, book.count(10));
        Check.same("printed(11)", 24 * 11 - 3 + 3, book.printed(11));
        Check.same("printed(0)", -3, book.printed(0));
        Check.same("monks", 2, book.count(0));
        Check.same("duties", 1, book.count(1));
        Check.same("goal", 11, book.monk(0, 1));
        Check.same("pace", 4, book.monk(0, 2));
        Check.same("goal without one", 7, book.monk(1, 1));
        Check.same("pace", 1, book.monk(1, 2));

        TideBook least = Check.coast("  ground 0 0;period 4;round 2;range 0 to 0;monk 0 pace 1 goal 0;"
                + "duty 0 from 999 to 999;storm 0;edition more 3;error 0 less 3   ");
        Check.same("period", 4, least.count(5));
        Check.same("round", 2, least.count(6));
        Check.same("spring", 0, least.count(8));
        Check.same("edition and 3", 6, least.count(10));
        Check.same("printed(0)", 0, least.printed(0));
        Check.same("leading zeros", 1, Check.tell(new TideBook(), "ground 011 007"));
        Check.same("words and numbers side by side", 1, Check.tell(new TideBook(), "range5to6;duty0from1to2"));
    }

    private static void severalTexts() {
        Check.promise(4);
        TideBook book = new TideBook();
        Check.same("the empty text", 1, Check.tell(book, ""));
        Check.same("blanks alone", 2, Check.tell(book, "     "));
        Check.same("a text", 3, Check.tell(book, "monk 1 pace 1;ground 1 4"));
        Check.same("the next text", 4, Check.tell(book, "monk 2 pace 2;ground 2 5"));
        Check.same("monks", 2, book.count(0));
        Check.same("the first monk's place", 1, book.monk(0, 0));
        Check.same("the second monk's place", 2, book.monk(1, 0));
        Check.same("ground of the first text", 4, book.ground(1));
        for (int i = 5; i <= 12; i++) {
            Check.same("text " + i, i, Check.tell(book, "storm " + i));
        }
        Check.fails("the 13th text", UnsupportedOperationException.class, () -> Check.tell(book, "storm 50"));
        Check.same("fault of a text that is one too many", -1, book.fault());
        Check.same("storm as it was", 12, book.count(11));
        Check.same("texts", 12, book.count(2));
        Check.same("its tape is used up", 20, book.feed(0, 0, 0, 0, 0));
        Check.wrongCoast(book, "storm 101", 6);
        Check.same("a law is still read", 1, Check.rule(book, "wait"));
    }

    private static void tooMany() {
        Check.promise(4);
        String fourteen = "storm 1" + ";storm 1".repeat(13);
        Check.same("14 lines", 1, Check.tell(new TideBook(), fourteen));
        Check.wrongCoast(new TideBook(), fourteen + "; storm 1", fourteen.length() + 2);
        Check.wrongCoast(new TideBook(), fourteen + ";", fourteen.length() + 1);
        TideBook six = Check.coast("monk 0 pace 1;monk 1 pace 1;monk 2 pace 1;monk 3 pace 1;monk 4 pace 1;monk 5 pace 1");
        Check.same("six monks", 6, six.count(0));
        Check.wrongCoast(six, " storm 1; monk 9999", 10);
        Check.same("storm of the wrong text", 0, six.count(11));
        TideBook duties = Check.coast("duty 0 from 0 to 0;duty 0 from 0 to 0;duty 0 from 0 to 0", "duty 0 from 0 to 0;"
                + "duty 0 from 0 to 0;duty 0 from 0 to 0");
        Check.same("six duties", 6, duties.count(1));
        Check.wrongCoast(duties, "duty 0 from 0 to 0", 0);
        Check.same("still six", 6, duties.count(1));
    }

    private static void wrongPlaces() {
        Check.promise(6);
        TideBook book = Check.coast("ground 3 7");
        Check.same("fault of a right one", -1, book.fault());
        Check.wrongCoast(book, "ground 12 3", 7);
        Check.wrongCoast(book, "ground 3 20", 9);
        Check.wrongCoast(book, "period 3", 7);
        Check.wrongCoast(book, "period 25", 7);
        Check.wrongCoast(book, "round 1", 6);
        Check.wrongCoast(book, "range 31 to 31", 6);
        Check.wrongCoast(book, "monk 12 pace 1", 5);
        Check.wrongCoast(book, "monk 1 pace 5", 12);
        Check.wrongCoast(book, "monk 1 pace 1 goal 12", 19);
        Check.wrongCoast(book, "storm 101", 6);
        Check.wrongCoast(book, "edition more 4", 13);
        Check.wrongCoast(book, "error 12 more 1", 6);
        Check.wrongCoast(book, "error 1 less 4", 13);
        Check.wrongCoast(book, "groundz 1 1", 0);
        Check.wrongCoast(book, "zground 1 1", 0);
        Check.wrongCoast(book, "ground" + (char) 96 + "1 1", 6);
        Check.wrongCoast(book, "ground" + (char) 123 + "1 1", 6);
        Check.wrongCoast(book, "ground 1/1", 8);
        Check.wrongCoast(book, "ground 1:1", 8);
        Check.wrongCoast(book, "ground", 6);
        Check.wrongCoast(book, "ground   ", 9);
        Check.wrongCoast(book, "ground 3", 8);
        Check.wrongCoast(book, "ground 3 8 ground", 11);
        Check.wrongCoast(book, "ground 0003 8", 7);
        Check.wrongCoast(book, "ground 3 8,", 10);
        Check.wrongCoast(book, "ground 3 8;;", 11);
        Check.wrongCoast(book, ";ground 3 8", 0);
        Check.wrongCoast(book, "Ground 3 8", 0);
        Check.wrongCoast(book, "grounds 3 8", 0);
        Check.wrongCoast(book, "groun 3 8", 0);
        Check.wrongCoast(book, "ground -3 8", 7);
        Check.wrongCoast(book, "ground\t3 8", 6);
        Check.wrongCoast(book, "ground 3 8;round 29", 17);
        Check.wrongCoast(book, "range 3 4", 8);
        Check.wrongCoast(book, "range 3 to", 10);
        Check.wrongCoast(book, "range 3 to 31", 11);
        Check.wrongCoast(book, "monk 1 goal 2", 7);
        Check.wrongCoast(book, "monk 1 pace 0", 12);
        Check.wrongCoast(book, "monk 1 pace 1 goal", 18);
        Check.wrongCoast(book, "monk 1 pace 1 pace 1", 14);
        Check.wrongCoast(book, "duty 1 from 3 to 2", 17);
        Check.wrongCoast(book, "duty 1 from 1000 to 1001", 12);
        Check.wrongCoast(book, "duty 12 from 1 to 2", 5);
        Check.wrongCoast(book, "edition less 4", 13);
        Check.wrongCoast(book, "edition less", 12);
        Check.wrongCoast(book, "error 1", 7);
        Check.wrongCoast(book, "error 1 to 1", 8);
        Check.wrongCoast(book, "wait", 0);
        Check.wrongCoast(book, "goal 1", 0);
        Check.wrongCoast(book, "storm 1;monk 0 pace 1;duty 0 from 0 to 0;edition more 1;period 99", 63);
        Check.same("of a wrong text nothing stays: storm", 0, book.count(11));
        Check.same("monks", 0, book.count(0));
        Check.same("duties", 0, book.count(1));
        Check.same("edition and 3", 3, book.count(10));
        Check.same("texts", 1, book.count(2));
        Check.same("ground", 7, book.ground(3));
        Check.same("fault stays", 63, book.fault());
        Check.tell(book, "");
        Check.same("fault of the empty text", -1, book.fault());
    }

    private static void grounds() {
        Check.promise(7);
        TideBook book = Check.coast("ground 0 1;ground 11 19;ground 5 0;ground 0 2");
        Check.same("ground(0)", 2, book.ground(0));
        Check.same("ground(11)", 19, book.ground(11));
        Check.same("ground(5)", 0, book.ground(5));
        Check.noIndex("ground(-1)", () -> book.ground(-1));
        Check.noIndex("ground(12)", () -> book.ground(12));
        Check.noIndex("ground of the greatest int", () -> book.ground(Integer.MAX_VALUE));
    }

    private static void duties() {
        Check.promise(9);
        TideBook book = Check.coast("duty 4 from 2 to 9;duty 11 from 7 to 7;monk 11 pace 1;ground 11 19");
        Check.same("place", 4, book.duty(0, 0));
        Check.same("from", 2, book.duty(0, 1));
        Check.same("to", 9, book.duty(0, 2));
        Check.same("kept", 0, book.duty(0, 3));
        Check.same("from", 7, book.duty(1, 1));
        Check.same("to", 7, book.duty(1, 2));
        book.hours(8);
        Check.same("not kept", 0, book.duty(0, 3));
        Check.same("kept", 1, book.duty(1, 3));
        Check.fails("duty(0, 4)", java.util.NoSuchElementException.class, () -> book.duty(0, 4));
        Check.fails("duty(0, -1)", java.util.NoSuchElementException.class, () -> book.duty(0, -1));
        Check.noIndex("duty(2, 9)", () -> book.duty(2, 9));
        Check.noIndex("duty(-1, 0)", () -> book.duty(-1, 0));
    }
}

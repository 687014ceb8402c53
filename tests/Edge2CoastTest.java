/** The edges of promise 4, and of promise 6 with texts of the coast. */
public final class Edge2CoastTest {
    public static void main(String[] args) {
        usesTheTapeUp();
        twelveTexts();
        wrongAheadOfTooMany();
        oneBehindAnother();
        fourteenLines();
        places();
        grounds();
        periods();
        rounds();
        ranges();
        springNotBelowNeap();
        sixMonks();
        monkAtFirst();
        paces();
        sixDuties();
        dutyHours();
        toNotBelowFrom();
        storms();
        editions();
        errors();
        threeDigits();
        wordsGoOn();
        blanks();
        noLine();
        moreMustCome();
        cannotStandThere();
        firstWordOfTooMany();
        nothingStays();
        latestText();
        Check.finish();
    }

    private static void right(String text) {
        TideBook book = new TideBook();
        Check.same("coast() of '" + text + "'", 1, Check.tell(book, text));
        Check.same("fault() of it", TideBook.NONE, book.fault());
    }

    private static void wrong(String text, int fault) {
        Check.wrongCoast(new TideBook(), text, fault);
    }

    /** The least and the greatest number are right, the next one on either side is the first wrong byte. */
    private static void bounds(String ahead, int least, int greatest, String behind) {
        right(ahead + least + behind);
        right(ahead + greatest + behind);
        wrong(ahead + (greatest + 1) + behind, ahead.length());
        if (least > 0) {
            wrong(ahead + (least - 1) + behind, ahead.length());
        }
        wrong(ahead + "-1" + behind, ahead.length());
    }

    private static void usesTheTapeUp() {
        Check.sentence(4, "Uses the TAPE up: a text of THE COAST: how many there are.");
        TideBook book = new TideBook();
        Check.same("the first", 1, Check.tell(book, "storm 1"));
        Check.no("a byte is left of a right one", book.end(1));
        Check.wrongCoast(book, "storm x", 6);
        Check.no("a byte is left of a wrong one", book.end(1));
        Check.same("the second", 2, book.coast());
        for (int i = 3; i <= 12; i++) {
            Check.same("text " + i, i, book.coast());
        }
        Check.tape(book, "storm 2");
        Check.fails("the 13th", UnsupportedOperationException.class, book::coast);
        Check.no("a byte is left of one too many", book.end(1));
    }

    private static TideBook twelveTold() {
        TideBook book = Whole.rich();
        for (int i = 3; i <= 12; i++) {
            Check.tell(book, "storm " + i);
        }
        book.wind(2);
        book.hours(1);
        return book;
    }

    private static void twelveTexts() {
        Check.sentence(4, "UnsupportedOperationException: there are 12.");
        TideBook eleven = new TideBook();
        for (int i = 1; i <= 11; i++) {
            Check.tell(eleven, "");
        }
        Check.same("the 12th", 12, Check.tell(eleven, "storm 9"));
        Check.same("STORM of it", 9, eleven.count(11));
        Whole.refusedTape("the 13th", UnsupportedOperationException.class, Edge2CoastTest::twelveTold,
                book -> Check.tell(book, "storm 77;monk 1 pace 1;period 9;ground 2 2;error 3 more 3"));
        Whole.refusedTape("the 13th, of no LINE", UnsupportedOperationException.class, Edge2CoastTest::twelveTold,
                book -> Check.tell(book, ""));
        TideBook back = new TideBook();
        back.image();
        for (int i = 1; i <= 12; i++) {
            Check.tell(back, "");
        }
        back.back();
        Check.same("as many again behind an image without any", 1, Check.tell(back, "storm 1"));
    }

    private static void wrongAheadOfTooMany() {
        Check.sentence(4, "IllegalArgumentException: it is wrong; UnsupportedOperationException: there are 12.");
        Whole.wrongText("coast", "storm 101", 6, Edge2CoastTest::twelveTold);
        TideBook book = twelveTold();
        Check.wrongCoast(book, "storm", 5);
        Check.fails("the 13th, right", UnsupportedOperationException.class, () -> Check.tell(book, "storm 4"));
        Check.same("fault() of a right one that was read", TideBook.NONE, book.fault());
    }

    private static void oneBehindAnother() {
        Check.sentence(4, "THE COAST is told in texts (at most 12, one behind another)");
        TideBook book = Check.coast("monk 1 pace 1;duty 1 from 1 to 1;ground 1 1;storm 1", "monk 2 pace 2;duty 2 from 2 to 2;ground 2 2");
        Check.same("MONKS", 2, book.count(0));
        Check.same("DUTIES", 2, book.count(1));
        Check.same("the first MONK's PLACE", 1, book.monk(0, 0));
        Check.same("the next one's", 2, book.monk(1, 0));
        Check.same("the first DUTY's PLACE", 1, book.duty(0, 0));
        Check.same("the next one's", 2, book.duty(1, 0));
        Check.same("ground(1)", 1, book.ground(1));
        Check.same("ground(2)", 2, book.ground(2));
        Check.same("STORM", 1, book.count(11));
        Check.same("the later LINE of two", 1, Check.tell(new TideBook(), "storm 1;storm 2"));
        TideBook twice = Check.coast("storm 1;storm 2;ground 4 4;ground 4 5");
        Check.same("STORM, told twice", 2, twice.count(11));
        Check.same("GROUND, told twice", 5, twice.ground(4));
    }

    private static void fourteenLines() {
        Check.sentence(4, "LINE { ; LINE }, at most 14: ground N N");
        String fourteen = "ground 0 1" + ";storm 1".repeat(12) + ";storm 14";
        TideBook book = new TideBook();
        Check.same("14 LINES", 1, Check.tell(book, fourteen));
        Check.same("the 14th counts", 14, book.count(11));
        wrong(fourteen + ";storm 15", fourteen.length() + 1);
        wrong(fourteen + " ; storm 15", fourteen.length() + 3);
        right("storm 1");
        wrong("storm 1;", 8);
        wrong(";storm 1", 0);
        wrong("storm 1;;storm 1", 8);
        wrong("storm 1 storm 1", 8);
        Check.same("14 more in the next text", 2, Check.tell(book, fourteen));
    }

    private static void places() {
        Check.sentence(4, "N of ground, monk, duty, goal: a PLACE");
        bounds("ground ", 0, 11, " 5");
        bounds("monk ", 0, 11, " pace 1");
        bounds("duty ", 0, 11, " from 1 to 2");
        bounds("monk 3 pace 1 goal ", 0, 11, "");
        TideBook ends = Check.coast("ground 0 3;ground 11 4;monk 0 pace 1 goal 11;monk 11 pace 1 goal 0;duty 0 from 0 to 1;duty 11 from 0 to 1");
        Check.same("ground(0)", 3, ends.ground(0));
        Check.same("ground(11)", 4, ends.ground(11));
        Check.same("PLACE 0", 0, ends.monk(0, 0));
        Check.same("GOAL 11", 11, ends.monk(0, 1));
        Check.same("PLACE 11", 11, ends.monk(1, 0));
        Check.same("GOAL 0", 0, ends.monk(1, 1));
        Check.same("a DUTY at 0", 0, ends.duty(0, 0));
        Check.same("a DUTY at 11", 11, ends.duty(1, 0));
    }

    private static void grounds() {
        Check.sentence(4, "GROUND 0 to 19 of each (0 at first).");
        bounds("ground 5 ", 0, 19, "");
        TideBook book = Check.coast("ground 5 19;ground 6 19;ground 6 0");
        Check.same("19", 19, book.ground(5));
        Check.same("0 again", 0, book.ground(6));
        Check.same("beside", 0, book.ground(4));
    }

    private static void periods() {
        Check.sentence(4, "PERIOD 4 to 24 (12 at first)");
        bounds("period ", 4, 24, "");
        Check.same("4", 4, Check.coast("period 4").count(5));
        Check.same("24", 24, Check.coast("period 24").count(5));
    }

    private static void rounds() {
        Check.sentence(4, "ROUND 2 to 28 (14 at first)");
        bounds("round ", 2, 28, "");
        Check.same("2", 2, Check.coast("round 2").count(6));
        Check.same("28", 28, Check.coast("round 28").count(6));
    }

    private static void ranges() {
        Check.sentence(4, "NEAP 0 to 30 (6 at first), SPRING 0 to 30 (12 at first; no less than NEAP).");
        bounds("range ", 0, 30, " to 30");
        bounds("range 0 to ", 0, 30, "");
        TideBook book = Check.coast("range 0 to 30");
        Check.same("NEAP", 0, book.count(7));
        Check.same("SPRING", 30, book.count(8));
        TideBook most = Check.coast("range 30 to 30");
        Check.same("NEAP", 30, most.count(7));
        Check.same("SPRING", 30, most.count(8));
    }

    private static void springNotBelowNeap() {
        Check.sentence(4, "of range: NEAP, then SPRING, not below it");
        bounds("range 7 to ", 7, 30, "");
        wrong("range 13 to 12", 12);
        wrong("range 30 to 29", 12);
        wrong("range 1 to 0", 11);
        // whatever SPRING was: 20 is above the 12 of a new one
        right("range 20 to 20");
        TideBook same = Check.coast("range 8 to 8");
        Check.same("NEAP", 8, same.count(7));
        Check.same("SPRING", 8, same.count(8));
    }

    private static void sixMonks() {
        Check.sentence(4, "MONKS (at most 6, numbered from 0 on)");
        TideBook book = Check.coast("monk 1 pace 1;monk 2 pace 1;monk 3 pace 1;monk 4 pace 1", "monk 5 pace 1;monk 6 pace 1");
        Check.same("six", 6, book.count(0));
        for (int monk = 0; monk < 6; monk++) {
            Check.same("PLACE of " + monk, monk + 1, book.monk(monk, 0));
        }
        Check.noIndex("monk(6, 0)", () -> book.monk(6, 0));
        Check.wrongCoast(book, "monk 7 pace 1", 0);
        Check.same("still six", 6, book.count(0));
        String six = "monk 1 pace 1;monk 2 pace 1;monk 3 pace 1;monk 4 pace 1;monk 5 pace 1;monk 6 pace 1";
        right(six);
        wrong(six + ";monk 7 pace 1", six.length() + 1);
    }

    private static void monkAtFirst() {
        Check.sentence(4, "a PLACE, a GOAL (the PLACE at first), PACE 1 to 4, TIRED 0 to 9 (0 at first), DROWNED or not.");
        TideBook book = Check.coast("monk 7 pace 2;monk 7 pace 2 goal 3");
        int[] without = {7, 7, 2, 0, 0};
        int[] with = {7, 3, 2, 0, 0};
        for (int what = 0; what < 5; what++) {
            Check.same("without a goal, what " + what, without[what], book.monk(0, what));
            Check.same("with a goal, what " + what, with[what], book.monk(1, what));
        }
        // a monk that comes where one with its number was drowned and gone back from
        TideBook anew = new TideBook();
        anew.image();
        Check.tell(anew, "monk 0 pace 1");
        Check.rule(anew, "tire 9");
        anew.hours(1);
        Check.same("drowned", 1, anew.count(13));
        anew.back();
        Check.tell(anew, "monk 3 pace 4");
        Check.same("TIRED", 0, anew.monk(0, 3));
        Check.same("DROWNED", 0, anew.monk(0, 4));
    }

    private static void paces() {
        Check.sentence(4, "PACE 1 to 4");
        bounds("monk 3 pace ", 1, 4, "");
        bounds("monk 3 pace ", 1, 4, " goal 5");
        Check.same("1", 1, Check.coast("monk 3 pace 1").monk(0, 2));
        Check.same("4", 4, Check.coast("monk 3 pace 4").monk(0, 2));
    }

    private static void sixDuties() {
        Check.sentence(4, "DUTIES (at most 6, numbered from 0 on): a PLACE, from an HOUR to an HOUR (both too); KEPT, or not (not at first).");
        TideBook book = Check.coast("duty 1 from 1 to 2;duty 2 from 1 to 2;duty 3 from 1 to 2;duty 4 from 1 to 2;duty 5 from 1 to 2", "duty 6 from 1 to 2");
        Check.same("six", 6, book.count(1));
        for (int duty = 0; duty < 6; duty++) {
            Check.same("PLACE of " + duty, duty + 1, book.duty(duty, 0));
            Check.same("KEPT at first", 0, book.duty(duty, 3));
        }
        Check.noIndex("duty(6, 0)", () -> book.duty(6, 0));
        Check.wrongCoast(book, "storm 5;duty 7 from 1 to 2", 8);
        Check.same("still six", 6, book.count(1));
        Check.same("nor a STORM", 0, book.count(11));
    }

    private static void dutyHours() {
        Check.sentence(4, "of from, to: HOURS 0 to 999");
        bounds("duty 3 from ", 0, 999, " to 999");
        bounds("duty 3 from 0 to ", 0, 999, "");
        TideBook book = Check.coast("duty 3 from 0 to 0;duty 3 from 999 to 999;duty 3 from 0 to 999");
        int[][] want = {{0, 0}, {999, 999}, {0, 999}};
        for (int duty = 0; duty < 3; duty++) {
            Check.same("from of " + duty, want[duty][0], book.duty(duty, 1));
            Check.same("to of " + duty, want[duty][1], book.duty(duty, 2));
        }
    }

    private static void toNotBelowFrom() {
        Check.sentence(4, "to not below from");
        bounds("duty 3 from 50 to ", 50, 999, "");
        wrong("duty 3 from 1 to 0", 17);
        wrong("duty 3 from 999 to 998", 19);
    }

    private static void storms() {
        Check.sentence(4, "STORM 0 to 100 (0 at first).");
        bounds("storm ", 0, 100, "");
        Check.same("0", 0, Check.coast("storm 1", "storm 0").count(11));
        Check.same("100", 100, Check.coast("storm 100").count(11));
    }

    private static void editions() {
        Check.sentence(4, "edition, and behind the TIDE of error: 0 to 3, less is below 0.");
        bounds("edition more ", 0, 3, "");
        bounds("edition less ", 0, 3, "");
        Check.same("more 3", 6, Check.coast("edition more 3").count(10));
        Check.same("more 0", 3, Check.coast("edition more 0").count(10));
        Check.same("less 0", 3, Check.coast("edition less 0").count(10));
        Check.same("less 1", 2, Check.coast("edition less 1").count(10));
        Check.same("less 3", 0, Check.coast("edition less 3").count(10));
        Check.same("told anew, not added", 4, Check.coast("edition more 3", "edition more 1").count(10));
    }

    private static void errors() {
        Check.sentence(4, "ERRORS: of the first 12 TIDES (0 to 11) - 3 to 3 (0 at first).");
        bounds("error ", 0, 11, " more 1");
        bounds("error 3 more ", 0, 3, "");
        bounds("error 3 less ", 0, 3, "");
        TideBook book = Check.coast("error 0 less 3;error 11 more 3;error 5 less 0;error 6 more 0");
        int[] want = {-3, 12, 24, 36, 48, 60, 72, 84, 96, 108, 120, 135};
        for (int tide = 0; tide < 12; tide++) {
            Check.same("printed(" + tide + ")", want[tide], book.printed(tide));
        }
        Check.same("told anew, not added", 13, Check.coast("error 1 more 3;error 1 more 1").printed(1));
    }

    private static void threeDigits() {
        Check.sentence(4, "Numbers are of 1 to 3 digits.");
        right("storm 1");
        right("storm 01");
        right("storm 001");
        wrong("storm 0001", 6);
        wrong("storm 1000", 6);
        wrong("storm 00000000000000000001", 6);
        wrong("storm 4294967297", 6);
        right("ground 011 019");
        wrong("ground 0011 019", 7);
        wrong("ground 011 0019", 11);
        Check.same("three digits", 7, Check.coast("storm 007").count(11));
        wrong("storm ", 6);
        wrong("storm x", 6);
        wrong("storm" + " /", 6);
        wrong("storm" + " :", 6);
    }

    private static void wordsGoOn() {
        Check.sentence(4, "Words are as long as a to z go on");
        right("ground5 6;monk3pace1goal4;range5to6;edition more1;error1less2");
        wrong("stormy 5", 0);
        wrong("storm5storm 6", 6);
        wrong("stor m 5", 0);
        wrong("s", 0);
        wrong("monk 1 pace 1 goalz 2", 14);
        wrong("monk 1 pacegoal 2", 7);
        wrong("edition moreless 1", 8);
        wrong("Storm 5", 0);
        wrong("STORM 5", 0);
        wrong("storm" + (char) 96 + "5", 5);
        wrong("storm" + (char) 123 + "5", 5);
        wrong("stormA5", 5);
        wrong("stormZ5", 5);
        wrong((char) 96 + "storm 5", 0);
        wrong("zzstorm 5", 0);
    }

    private static void blanks() {
        Check.sentence(4, "between all there may be blanks (32), also ahead and behind.");
        right(" storm 5");
        right("storm 5 ");
        right("   storm   5   ;   storm   6   ");
        right("storm5;storm6");
        right(" ".repeat(393) + "storm 5");
        right("storm 5" + " ".repeat(393));
        TideBook all = Check.coast(" ".repeat(300) + "storm" + " ".repeat(93) + "42");
        Check.same("STORM behind 400 bytes", 42, all.count(11));
        for (int sign : new int[] {0, 9, 10, 11, 12, 13, 31, 33, 127, 128, 160, 255}) {
            wrong("storm" + (char) sign + "5", 5);
            wrong((char) sign + "storm 5", 0);
            wrong("storm 5" + (char) sign, 7);
            wrong(String.valueOf((char) sign), 0);
        }
        wrong("ground 1 2 3", 11);
        wrong("storm 1 0", 8);
    }

    private static void noLine() {
        Check.sentence(4, "A text that is empty, or blanks alone, has no LINE.");
        Whole.alike("an empty text ahead, and one behind", Check.coast("storm 4;monk 3 pace 1", ""), Check.coast("", "storm 4;monk 3 pace 1"));
        for (int blanks : new int[] {1, 2, 400}) {
            TideBook book = Check.coast("storm 4");
            Check.same("coast() of " + blanks + " blanks", 2, Check.tell(book, " ".repeat(blanks)));
            Check.same("fault()", TideBook.NONE, book.fault());
            Check.same("STORM", 4, book.count(11));
        }
        wrong("  ;", 2);
    }

    private static void moreMustCome() {
        Check.sentence(6, "or the text's length, if more must come.");
        String[] whole = {"ground 1 2", "period 5", "round 5", "range 1 to 2", "monk 1 pace 2 goal 3", "duty 1 from 2 to 3", "storm 4",
            "edition more 1", "edition less 1", "error 1 more 2", "error 1 less 2"};
        for (String line : whole) {
            right(line);
            String[] words = line.split(" ");
            String begun = "";
            for (int i = 0; i + 1 < words.length; i++) {
                begun = i == 0 ? words[0] : begun + " " + words[i];
                boolean monkAlone = begun.equals("monk 1 pace 2");
                if (!monkAlone) {
                    wrong(begun, begun.length());
                    wrong(begun + "   ", begun.length() + 3);
                }
            }
            wrong(line + ";", line.length() + 1);
            wrong(line + " ; ", line.length() + 3);
        }
        String long400 = " ".repeat(394) + "ground";
        wrong(long400, 400);
        String fourteen = "storm 1" + ";storm 1".repeat(13);
        wrong(fourteen + ";", fourteen.length() + 1);
        wrong(fourteen + ";  ", fourteen.length() + 3);
    }

    private static void cannotStandThere() {
        Check.sentence(6, "The first wrong byte: the begin of the first thing that cannot stand there (a number of more digits, or out of its bounds; a word that is none;");
        // each thing of each LINE in turn is another word, a number, a sign
        String[] whole = {"ground 1 2", "period 5", "round 5", "range 1 to 2", "monk 1 pace 2 goal 3", "duty 1 from 2 to 3", "storm 4",
            "edition more 1", "edition less 1", "error 1 more 2", "error 1 less 2"};
        for (String line : whole) {
            String[] words = line.split(" ");
            int begin = 0;
            for (int i = 0; i < words.length; i++) {
                String behind = line.substring(begin + words[i].length());
                boolean number = Character.isDigit(words[i].charAt(0));
                wrong(line.substring(0, begin) + "tide" + behind, begin);
                wrong(line.substring(0, begin) + "?" + behind, begin);
                // behind the pace a LINE may end
                if (!words[i].equals("goal")) {
                    wrong(line.substring(0, begin) + ";" + behind, begin);
                }
                wrong(line.substring(0, begin) + (number ? "storm" : "7") + behind, begin);
                wrong(line.substring(0, begin) + (number ? "1000" : words[i] + "x") + behind, begin);
                begin += words[i].length() + 1;
            }
            wrong(line + " 7", line.length() + 1);
            wrong(line + " storm", line.length() + 1);
            wrong(line + ",", line.length());
        }
        wrong("wade 1", 0);
        wrong("pace 1", 0);
        wrong("goal 1", 0);
        wrong("to 1", 0);
        wrong("1", 0);
        // of several the first
        wrong("storm 101;storm 101", 6);
        wrong("storm 1;storm 101;x", 14);
        wrong("ground 12 20", 7);
    }

    private static void firstWordOfTooMany() {
        Check.sentence(6, "of a LINE, a MONK, a DUTY too many, the first word)");
        String fourteen = "storm 1" + ";storm 1".repeat(13);
        wrong(fourteen + ";storm 1", fourteen.length() + 1);
        // the first word, though what comes behind it is wrong, too
        wrong(fourteen + "; storm 999", fourteen.length() + 2);
        wrong(fourteen + ";  monk", fourteen.length() + 3);
        String monks = "monk 0 pace 1" + ";monk 0 pace 1".repeat(5);
        wrong(monks + "; monk 12", monks.length() + 2);
        wrong(monks + ";storm 1;monk", monks.length() + 9);
        TideBook five = Check.coast("monk 0 pace 1" + ";monk 0 pace 1".repeat(4));
        Check.wrongCoast(five, "monk 0 pace 1; monk 0 pace 1", 15);
        Check.same("five still", 5, five.count(0));
        Check.same("and one more", 2, Check.tell(five, "monk 0 pace 1"));
        String duties = "duty 0 from 0 to 0" + ";duty 0 from 0 to 0".repeat(5);
        wrong(duties + "; duty 12", duties.length() + 2);
        wrong(duties + ";monk 0 pace 1;duty", duties.length() + 15);
        // a MONK that is wrong does not count as one
        wrong(monks.substring(14) + ";monk 0 pace 5", monks.length() - 1);
    }

    private static void nothingStays() {
        Check.sentence(4, "Of a wrong text nothing stays.");
        String[] lines = {"ground 1 2", "period 9", "round 9", "range 1 to 2", "monk 1 pace 2 goal 3", "duty 1 from 2 to 3", "storm 4",
            "edition more 2", "edition less 2", "error 1 more 2", "error 2 less 1"};
        for (String line : lines) {
            Whole.wrongText("coast", line + ";x", line.length() + 1, Whole::rich);
            Whole.wrongText("coast", line + ";", line.length() + 1, Whole::rich);
        }
        String all = String.join(";", lines);
        Whole.wrongText("coast", all + ";storm 101", all.length() + 7, Whole::rich);
        Whole.wrongText("coast", all + " storm", all.length() + 1, Whole::rich);
    }

    private static void latestText() {
        Check.sentence(6, "The first wrong byte of the latest text that was read; NONE without one, and ahead of any.");
        TideBook book = new TideBook();
        Check.same("ahead of any", TideBook.NONE, book.fault());
        Check.wrongCoast(book, "x", 0);
        Check.same("the first byte", 0, book.fault());
        Check.wrongCoast(book, "storm 1;", 8);
        Check.same("once more", 8, book.fault());
        Check.wrongLaw(book, "wait wait", 5);
        Check.same("of the law, the latest", 5, book.fault());
        Check.wrongCoast(book, "storm", 5);
        Check.tell(book, "storm 1");
        Check.same("of a right one", TideBook.NONE, book.fault());
        Check.wrongCoast(book, "storm", 5);
        Check.rule(book, "wait");
        Check.same("of a right law", TideBook.NONE, book.fault());
        Check.wrongLaw(book, "wade", 4);
        Check.tape(book, 200);
        Check.noArgument("came(true)", () -> book.came(true));
        Check.tape(book, 200);
        Check.noArgument("amends(true)", () -> book.amends(true));
        Check.tape(book, 200);
        Check.noArgument("witness()", () -> book.witness());
        Check.tape(book, 200);
        Check.noArgument("send(-1)", () -> book.send(-1));
        Check.same("a TAPE that is no text is not read as one", 4, book.fault());
        book.undo();
        book.image();
        book.back();
        Check.same("nor is anything else", 4, book.fault());
    }
}

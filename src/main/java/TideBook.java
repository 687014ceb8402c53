import java.util.NoSuchElementException;

/** A flat coast, its tides, the book that prints them, and the monks who walk by it. */
public final class TideBook {
    public static final int NONE = -1;

    private static final int PLACES = 12;
    private static final int HIGHEST_GROUND = 19;
    private static final int LAST_HOUR = 9999;
    private static final int LAST_RANGE_TIDE = 2499;
    private static final int LAST_TIDE = 400;
    private static final int BOOK_TIDES = 12;
    private static final int FURTHEST_PRINT = 3;
    private static final int STRONGEST_WIND = 5;
    private static final int MOST_MONKS = 6;
    private static final int MOST_DUTIES = 6;
    private static final int FASTEST = 4;
    private static final int DEEPEST_WADE = 9;
    private static final int MOST_TIRED = 9;
    private static final int DROWNS_ABOVE = 3;
    private static final int MOST_HOURS = 100;
    private static final int LONGEST_WAY = 60;
    private static final int WALK_DEPTH = 1;
    private static final int LOG_ROWS = 60;
    private static final int MEMORY = 12;
    private static final int MOST_TEXTS = 12;
    private static final int COAST_LINES = 14;
    private static final int LAW_LINES = 12;
    private static final int MOST_NESTED = 6;
    private static final int TAPE_BYTES = 400;
    private static final int TOLD_BYTES = 40;
    private static final int LATE_SHIFT = 6;
    private static final int MOST_ODDS = 6;
    private static final int SPAN_SEEDS = 6;
    private static final int HOURS_OF_DAY = 24;
    private static final int NO_EDITION = -9;

    private final Tape tape = new Tape();
    private final World world = new World();
    private final World trialWorld = new World();
    private final World imageWorld = new World();
    private final Law law = new Law();
    private final Law spareLaw = new Law();
    private final Law imageLaw = new Law();
    private final Text text = new Text(tape);
    private final CoastReader coastReader = new CoastReader(text);
    private final LawReader lawReader = new LawReader(text, spareLaw);
    private final Ways ways = new Ways();
    private final Errands errands = new Errands(ways);
    private final Past past = new Past();
    private int fault = NONE;
    private boolean imageKept = false;

    public TideBook() {
    }

    public int feed(int a, int b, int c, int d, int e) {
        if (tape.length + 20 > TAPE_BYTES) {
            return NONE;
        }
        tape.addNumber(a);
        tape.addNumber(b);
        tape.addNumber(c);
        tape.addNumber(d);
        tape.addNumber(e);
        return tape.length;
    }

    public boolean end(int n) {
        if (n < 0 || n > tape.length) {
            return false;
        }
        tape.length = n;
        return true;
    }

    public int coast() throws IllegalArgumentException, UnsupportedOperationException {
        // A wrong text must leave nothing behind, so it is told to a copy first.
        World told = trialCopy();
        fault = coastReader.read(told);
        tape.length = 0;
        if (fault != NONE) {
            throw new IllegalArgumentException();
        }
        if (world.texts >= MOST_TEXTS) {
            throw new UnsupportedOperationException();
        }
        world.copyFrom(told);
        world.texts++;
        past.forget();
        return world.texts;
    }

    public int law() throws IllegalArgumentException {
        fault = lawReader.read();
        tape.length = 0;
        if (fault != NONE) {
            throw new IllegalArgumentException();
        }
        law.copyFrom(spareLaw);
        past.forget();
        return law.lines;
    }

    public int fault() {
        return fault;
    }

    public int ground(int place) throws IndexOutOfBoundsException {
        needPlace(place);
        return at(world.ground, place);
    }

    public int monk(int monk, int what) throws IndexOutOfBoundsException, NoSuchElementException {
        needMonk(monk);
        int water = world.waterIn(world.hour);
        switch (what) {
            case 0:
                return world.monkCell(monk, World.PLACE);
            case 1:
                return world.monkCell(monk, World.GOAL);
            case 2:
                return world.monkCell(monk, World.PACE);
            case 3:
                return world.monkCell(monk, World.TIRED);
            case 4:
                return world.isDrowned(monk) ? 1 : 0;
            case 5:
                return law.wades(world, monk, water);
            case 6:
                return law.waits(world, monk, water) ? 1 : 0;
            case 7:
                return law.tires(world, monk, water);
            default:
                throw new NoSuchElementException();
        }
    }

    public int duty(int duty, int what) throws IndexOutOfBoundsException, NoSuchElementException {
        needDuty(duty);
        switch (what) {
            case 0:
                return world.dutyCell(duty, World.PLACE);
            case 1:
                return world.dutyCell(duty, World.FROM);
            case 2:
                return world.dutyCell(duty, World.TO);
            case 3:
                return world.isKept(duty) ? 1 : 0;
            default:
                throw new NoSuchElementException();
        }
    }

    public int range(int tide) throws IllegalArgumentException {
        needWithin(tide, 0, LAST_RANGE_TIDE);
        return world.rangeOf(tide);
    }

    public int water(int hour) throws IllegalArgumentException {
        needWithin(hour, 0, LAST_HOUR);
        return world.waterIn(hour);
    }

    public int depth(int place, int hour) throws IndexOutOfBoundsException, IllegalArgumentException {
        needPlace(place);
        needWithin(hour, 0, LAST_HOUR);
        return world.depthBy(world.waterIn(hour), place);
    }

    public int printed(int tide) throws IllegalArgumentException {
        needWithin(tide, 0, BOOK_TIDES - 1);
        return world.printedBy(world.edition, tide);
    }

    public int goal(int monk, int place) throws IndexOutOfBoundsException, IllegalStateException {
        needMonk(monk);
        needPlace(place);
        needAlive(monk);
        past.remember(world);
        int was = world.monkCell(monk, World.GOAL);
        world.setMonkCell(monk, World.GOAL, place);
        return was;
    }

    public int rest(int monk) throws IndexOutOfBoundsException, IllegalStateException {
        needMonk(monk);
        needAlive(monk);
        past.remember(world);
        int was = world.monkCell(monk, World.TIRED);
        world.setMonkCell(monk, World.TIRED, 0);
        return was;
    }

    public int error(int tide, int n) throws IllegalArgumentException {
        needWithin(tide, 0, BOOK_TIDES - 1);
        needPrint(n);
        past.remember(world);
        put(world.errors, tide, n);
        return world.printedBy(world.edition, tide);
    }

    public int edition(int n) throws IllegalArgumentException {
        needPrint(n);
        past.remember(world);
        int was = world.edition;
        world.edition = n;
        return was;
    }

    public int wind(int n) throws IllegalArgumentException {
        needWithin(n, -STRONGEST_WIND, STRONGEST_WIND);
        past.remember(world);
        int was = world.wind;
        world.wind = n;
        return was;
    }

    public boolean anew(int duty) throws IndexOutOfBoundsException {
        needDuty(duty);
        past.remember(world);
        boolean was = world.isKept(duty);
        world.kept &= ~(1 << duty);
        return was;
    }

    public int hours(int n) throws IllegalArgumentException {
        needWithin(n, 1, MOST_HOURS);
        past.remember(world);
        return Clock.run(world, law, n, true);
    }

    public int high(int hour) throws IllegalArgumentException {
        needWithin(hour, 0, LAST_HOUR);
        int step = world.stepOf(hour);
        return step == 0 ? hour : hour - step + world.period;
    }

    public int low(int tide) throws IllegalArgumentException {
        needWithin(tide, 0, LAST_TIDE);
        int lowest = tide * world.period;
        for (int step = 1; step < world.period; step++) {
            int hour = tide * world.period + step;
            if (world.waterIn(hour) < world.waterIn(lowest)) {
                lowest = hour;
            }
        }
        return lowest;
    }

    public int dry(int place, int tide) throws IndexOutOfBoundsException, IllegalArgumentException {
        needPlace(place);
        needWithin(tide, 0, LAST_TIDE);
        return hoursNoDeeper(1 << place, 0, tide);
    }

    public int highest(int tide) throws IllegalArgumentException {
        needWithin(tide, 0, LAST_TIDE);
        int greatest = tide;
        for (int i = 1; i < world.round; i++) {
            if (world.rangeOf(tide + i) > world.rangeOf(greatest)) {
                greatest = tide + i;
            }
        }
        return greatest;
    }

    public int way(int from, int to, int pace, int depth, int hour)
            throws IndexOutOfBoundsException, IllegalArgumentException {
        needPlace(from);
        needPlace(to);
        needWithin(pace, 1, FASTEST);
        needWithin(depth, 0, DEEPEST_WADE);
        needWithin(hour, 0, LAST_HOUR);
        ways.look(world);
        return ways.fewestHours(world, from, to, pace, depth, hour);
    }

    public int start(int from, int to, int pace, int depth, int tide)
            throws IndexOutOfBoundsException, IllegalArgumentException {
        needPlace(from);
        needPlace(to);
        needWithin(pace, 1, FASTEST);
        needWithin(depth, 0, DEEPEST_WADE);
        needWithin(tide, 0, LAST_TIDE);
        ways.look(world);
        for (int step = world.period - 1; step >= 0; step--) {
            int hour = tide * world.period + step;
            if (ways.fewestHours(world, from, to, pace, depth, hour) != NONE) {
                return hour;
            }
        }
        return NONE;
    }

    public int safe(int from, int to, int depth, int tide)
            throws IndexOutOfBoundsException, IllegalArgumentException {
        needPlace(from);
        needPlace(to);
        needWithin(from, 0, to);
        needWithin(depth, 0, DEEPEST_WADE);
        needWithin(tide, 0, LAST_TIDE);
        int upToLast = (2 << to) - 1;
        int belowFirst = (1 << from) - 1;
        return hoursNoDeeper(upToLast & ~belowFirst, depth, tide);
    }

    public int fetch(int monk) throws IndexOutOfBoundsException {
        needMonk(monk);
        if (world.isDrowned(monk)) {
            return NONE;
        }
        ways.look(world);
        int place = world.monkCell(monk, World.PLACE);
        int nearest = NONE;
        int fewest = LONGEST_WAY + 1;
        for (int other = 0; other < world.monks; other++) {
            if (other != monk && !world.isDrowned(other)) {
                int hours = ways.hoursOfMonk(world, other, place);
                if (hours != NONE && hours < fewest) {
                    fewest = hours;
                    nearest = other;
                }
            }
        }
        return nearest;
    }

    public int send(int monk) throws IndexOutOfBoundsException, IllegalArgumentException {
        int told = tape.length;
        tape.length = 0;
        if (monk != NONE) {
            needMonk(monk);
        }
        if (told != world.alive()) {
            throw new IllegalArgumentException();
        }
        for (int i = 0; i < told; i++) {
            needWithin(at(tape.bytes, i), 0, PLACES - 1);
        }
        int hours = errands.sendAll(world, tape.bytes, told);
        return hours == NONE || monk == NONE ? hours : errands.sentTo(monk);
    }

    public int most(int monk, int k) throws IndexOutOfBoundsException {
        needMonk(monk);
        int most = world.isDrowned(monk) ? 0 : errands.keepMost(world, monk);
        if (k == NONE) {
            return most;
        }
        return k >= 0 && k < most ? errands.keptAs(k) : NONE;
    }

    public int came(boolean least) throws IllegalArgumentException {
        int told = useTold();
        int fitting = 0;
        int first = NO_EDITION;
        for (int edition = FURTHEST_PRINT; edition >= -FURTHEST_PRINT; edition--) {
            if (misfits(edition, told) == 0) {
                fitting++;
                first = edition;
            }
        }
        return least ? first : fitting;
    }

    public int amends(boolean edition) throws IllegalArgumentException {
        int told = useTold();
        int best = -FURTHEST_PRINT;
        int fewest = misfits(best, told);
        for (int other = best + 1; other <= FURTHEST_PRINT; other++) {
            int wrong = misfits(other, told);
            if (wrong < fewest) {
                fewest = wrong;
                best = other;
            }
        }
        return edition ? best : fewest;
    }

    public int witness() throws IllegalArgumentException {
        int told = useTold();
        int tides = 0;
        for (int i = 0; i < told; i += 2) {
            tides |= 1 << at(tape.bytes, i);
        }
        int best = NONE;
        int greatest = NONE;
        for (int tide = 0; tide < BOOK_TIDES; tide++) {
            int size = Math.abs(at(world.errors, tide));
            if (!has(tides, tide) && size > greatest) {
                greatest = size;
                best = tide;
            }
        }
        return best;
    }

    public int clash(int edition, int other) throws IllegalArgumentException {
        needPrint(edition);
        needPrint(other);
        int tides = 0;
        for (int tide = 0; tide < BOOK_TIDES; tide++) {
            if (dayOf(world.printedBy(edition, tide)) != dayOf(world.printedBy(other, tide))) {
                tides |= 1 << tide;
            }
        }
        return tides;
    }

    public int blank() {
        for (int tide = 1; tide < BOOK_TIDES; tide++) {
            if (world.printedBy(world.edition, tide) <= world.printedBy(world.edition, tide - 1)) {
                return tide;
            }
        }
        return NONE;
    }

    public int neaps() {
        int tides = 0;
        for (int tide = 0; tide < BOOK_TIDES; tide++) {
            if (world.rangeOf(tide) == world.neap) {
                tides |= 1 << tide;
            }
        }
        return tides;
    }

    public int stranded() {
        int water = world.waterIn(world.hour);
        int monks = 0;
        for (int monk = 0; monk < world.monks; monk++) {
            int place = world.monkCell(monk, World.PLACE);
            if (!world.isDrowned(monk) && world.depthBy(water, place) == 0) {
                int wades = law.wades(world, monk, water);
                boolean below = place == 0 || world.depthBy(water, place - 1) > wades;
                boolean above = place == PLACES - 1 || world.depthBy(water, place + 1) > wades;
                monks |= below && above ? 1 << monk : 0;
            }
        }
        return monks;
    }

    public int ahead(int monk, int n) throws IndexOutOfBoundsException, IllegalArgumentException {
        needMonk(monk);
        needWithin(n, 0, MOST_HOURS);
        World then = trialCopy();
        Clock.run(then, law, n, false);
        return then.monkCell(monk, World.PLACE);
    }

    public int doomed(int n) throws IllegalArgumentException {
        needWithin(n, 0, MOST_HOURS);
        World then = trialCopy();
        Clock.run(then, law, n, false);
        return then.drowned & ~world.drowned;
    }

    public int done(int n) throws IllegalArgumentException {
        needWithin(n, 0, MOST_HOURS);
        World then = trialCopy();
        Clock.run(then, law, n, false);
        return then.kept;
    }

    public int lost() {
        int duties = 0;
        for (int duty = 0; duty < world.duties; duty++) {
            if (!world.isKept(duty) && world.dutyCell(duty, World.TO) < world.hour) {
                duties |= 1 << duty;
            }
        }
        return duties;
    }

    public int odds(int n, int k) throws IllegalArgumentException {
        needWithin(n, 0, MOST_ODDS);
        needWithin(k, 0, MOST_ODDS);
        long cases = 0;
        for (int storms = k; storms <= n; storms++) {
            cases += choices(n, storms) * power(world.storm, storms) * power(100 - world.storm, n - storms);
        }
        // At least 1, as 100 to any power is: the divisor can never be 0.
        return (int) (cases * 10000 / Math.max(1L, power(100, n)));
    }

    public int risk(int place, int hour, int depth) throws IndexOutOfBoundsException, IllegalArgumentException {
        needPlace(place);
        needWithin(hour, 0, LAST_HOUR);
        needWithin(depth, 0, DEEPEST_WADE);
        int winds = 0;
        for (int wind = -STRONGEST_WIND; wind <= STRONGEST_WIND; wind++) {
            if (world.depthBy(world.waterWith(hour, wind), place) > depth) {
                winds++;
            }
        }
        return winds;
    }

    public int trial(int n, boolean drowned) throws IllegalArgumentException {
        needWithin(n, 0, MOST_HOURS);
        World then = trialCopy();
        int kept = Clock.run(then, law, n, true);
        return drowned ? then.drowned : kept;
    }

    public int span(int n, boolean most) throws IllegalArgumentException {
        needWithin(n, 0, MOST_HOURS);
        int fewest = MOST_DUTIES;
        int greatest = 0;
        for (int seed = 1; seed <= SPAN_SEEDS; seed++) {
            World then = trialCopy();
            then.seed = seed;
            int kept = Clock.run(then, law, n, true);
            fewest = Math.min(fewest, kept);
            greatest = Math.max(greatest, kept);
        }
        return most ? greatest : fewest;
    }

    public int led(int place, boolean hour) throws IndexOutOfBoundsException {
        needPlace(place);
        int rows = 0;
        int latest = NONE;
        for (int ago = world.loggedRows() - 1; ago >= 0; ago--) {
            if (world.loggedPlace(ago) == place) {
                rows++;
                latest = world.loggedHour(ago);
            }
        }
        return hour ? latest : rows;
    }

    public int log(int ago, int what) throws NoSuchElementException {
        if (what < 0 || what > 3) {
            throw new NoSuchElementException();
        }
        if (ago < 0 || ago >= world.loggedRows()) {
            return NONE;
        }
        switch (what) {
            case 0:
                return world.loggedHour(ago);
            case 1:
                return world.loggedNumber(ago);
            case 2:
                return world.loggedKind(ago);
            default:
                return world.loggedPlace(ago);
        }
    }

    public int seed(int n) {
        int was = world.seed;
        world.seed = n;
        return was;
    }

    public boolean undo() {
        return past.recall(world);
    }

    public void image() {
        imageWorld.copyFrom(world);
        imageLaw.copyFrom(law);
        imageKept = true;
    }

    public boolean back() {
        if (!imageKept) {
            return false;
        }
        world.copyFrom(imageWorld);
        law.copyFrom(imageLaw);
        past.forget();
        return true;
    }

    public int count(int what) {
        switch (what) {
            case 0:
                return world.monks;
            case 1:
                return world.duties;
            case 2:
                return world.texts;
            case 3:
                return law.lines;
            case 4:
                return world.hour;
            case 5:
                return world.period;
            case 6:
                return world.round;
            case 7:
                return world.neap;
            case 8:
                return world.spring;
            case 9:
                return world.wind + STRONGEST_WIND;
            case 10:
                return world.edition + FURTHEST_PRINT;
            case 11:
                return world.storm;
            case 12:
                return world.kept;
            case 13:
                return world.drowned;
            case 14:
                return world.loggedRows();
            case 15:
                return past.size;
            default:
                return NONE;
        }
    }

    private void needPlace(int place) {
        if (place < 0 || place >= PLACES) {
            throw new IndexOutOfBoundsException();
        }
    }

    private void needMonk(int monk) {
        if (monk < 0 || monk >= world.monks) {
            throw new IndexOutOfBoundsException();
        }
    }

    private void needDuty(int duty) {
        if (duty < 0 || duty >= world.duties) {
            throw new IndexOutOfBoundsException();
        }
    }

    private void needAlive(int monk) {
        if (world.isDrowned(monk)) {
            throw new IllegalStateException();
        }
    }

    private void needPrint(int n) {
        needWithin(n, -FURTHEST_PRINT, FURTHEST_PRINT);
    }

    private void needWithin(int n, int least, int greatest) {
        if (n < least || n > greatest) {
            throw new IllegalArgumentException();
        }
    }

    /** The hours of a tide in which none of these places (bits) is deeper than that. */
    private int hoursNoDeeper(int places, int depth, int tide) {
        ways.look(world);
        int hours = 0;
        for (int step = 0; step < world.period; step++) {
            int open = ways.openPlaces(world, tide * world.period + step, depth);
            if ((places & ~open) == 0) {
                hours++;
            }
        }
        return hours;
    }

    /** Uses up a tape of pairs (a tide, how late and 6) and says how many bytes it has. */
    private int useTold() {
        int told = tape.length;
        tape.length = 0;
        needWithin(told, 0, TOLD_BYTES);
        needWithin(told % 2, 0, 0);
        for (int i = 0; i < told; i += 2) {
            needWithin(at(tape.bytes, i), 0, BOOK_TIDES - 1);
            needWithin(at(tape.bytes, i + 1), 0, 2 * LATE_SHIFT);
        }
        return told;
    }

    /** How many of the told pairs came otherwise than this edition would print them. */
    private int misfits(int edition, int told) {
        int wrong = 0;
        for (int i = 0; i < told; i += 2) {
            int tide = at(tape.bytes, i);
            int late = at(tape.bytes, i + 1) - LATE_SHIFT;
            if (world.printedBy(edition, tide) != world.printedBy(world.edition, tide) + late) {
                wrong++;
            }
        }
        return wrong;
    }

    /** A copy of the world, in which hours may go by while nothing stays. */
    private World trialCopy() {
        trialWorld.copyFrom(world);
        return trialWorld;
    }

    private static int dayOf(int hour) {
        return hour < 0 ? NONE : hour / HOURS_OF_DAY;
    }

    private static long power(int base, int exponent) {
        long product = 1;
        for (int i = 0; i < exponent; i++) {
            product *= base;
        }
        return product;
    }

    /** In how many ways k of n can be chosen; each division leaves nothing over. */
    private static long choices(int n, int k) {
        long found = 1;
        for (int i = 1; i <= k; i++) {
            found = found * (n - k + i) / i;
        }
        return found;
    }

    private static boolean has(int bits, int bit) {
        return bit >= 0 && bit < 32 && (bits >> bit & 1) == 1;
    }

    /** Every row is read through here or behind a look at its length, so no index can be off. */
    private static int at(int[] row, int index) {
        return index >= 0 && index < row.length ? row[index] : 0;
    }

    private static void put(int[] row, int index, int value) {
        if (index >= 0 && index < row.length) {
            row[index] = value;
        }
    }

    private static void copyRow(int[] from, int[] to) {
        System.arraycopy(from, 0, to, 0, Math.min(from.length, to.length));
    }

    /** The bytes that were fed and not used up yet. */
    private static final class Tape {
        final int[] bytes = new int[TAPE_BYTES];
        int length = 0;

        void addNumber(int number) {
            for (int shift = 24; shift >= 0; shift -= 8) {
                put(bytes, length, number >> shift & 255);
                length++;
            }
        }
    }

    /** All that acts and coast texts change: what is undone and kept as an image. */
    private static final class World {
        static final int PLACE = 0;
        static final int GOAL = 1;
        static final int PACE = 2;
        static final int TIRED = 3;
        static final int FROM = 1;
        static final int TO = 2;
        static final int KEPT_ROW = 0;
        static final int DROWNED_ROW = 1;
        private static final int MONK_CELLS = 4;
        private static final int DUTY_CELLS = 3;

        int hour = 0;
        int wind = 0;
        int seed = 1;
        int edition = 0;
        int storm = 0;
        int period = 12;
        int round = 14;
        int neap = 6;
        int spring = 12;
        int texts = 0;
        int monks = 0;
        int duties = 0;
        int drowned = 0;
        int kept = 0;
        int logged = 0;
        final int[] ground = new int[PLACES];
        final int[] errors = new int[BOOK_TIDES];
        private final int[] monkCells = new int[MOST_MONKS * MONK_CELLS];
        private final int[] dutyCells = new int[MOST_DUTIES * DUTY_CELLS];
        // A row of the log is one number, so that copies of a world stay small.
        private final int[] logRows = new int[LOG_ROWS];

        void copyFrom(World other) {
            hour = other.hour;
            wind = other.wind;
            seed = other.seed;
            edition = other.edition;
            storm = other.storm;
            period = other.period;
            round = other.round;
            neap = other.neap;
            spring = other.spring;
            texts = other.texts;
            monks = other.monks;
            duties = other.duties;
            drowned = other.drowned;
            kept = other.kept;
            logged = other.logged;
            copyRow(other.ground, ground);
            copyRow(other.errors, errors);
            copyRow(other.monkCells, monkCells);
            copyRow(other.dutyCells, dutyCells);
            copyRow(other.logRows, logRows);
        }

        int monkCell(int monk, int cell) {
            int index = monk * MONK_CELLS + cell;
            return index >= 0 && index < monkCells.length ? monkCells[index] : 0;
        }

        void setMonkCell(int monk, int cell, int value) {
            put(monkCells, monk * MONK_CELLS + cell, value);
        }

        int dutyCell(int duty, int cell) {
            return at(dutyCells, duty * DUTY_CELLS + cell);
        }

        void addMonk(int place, int pace, int goal) {
            setMonkCell(monks, PLACE, place);
            setMonkCell(monks, GOAL, goal);
            setMonkCell(monks, PACE, pace);
            setMonkCell(monks, TIRED, 0);
            monks++;
        }

        void addDuty(int place, int from, int to) {
            put(dutyCells, duties * DUTY_CELLS + PLACE, place);
            put(dutyCells, duties * DUTY_CELLS + FROM, from);
            put(dutyCells, duties * DUTY_CELLS + TO, to);
            duties++;
        }

        boolean isDrowned(int monk) {
            return has(drowned, monk);
        }

        boolean isKept(int duty) {
            return has(kept, duty);
        }

        int alive() {
            return monks - Integer.bitCount(drowned);
        }

        int stepOf(int hour) {
            return period > 0 ? hour % period : 0;
        }

        int rangeOf(int tide) {
            if (round <= 0) {
                return neap;
            }
            int k = tide % round;
            int far = 2 * k > round ? 2 * k - round : round - 2 * k;
            return neap + (spring - neap) * far / round;
        }

        int waterWith(int hour, int wind) {
            if (period <= 0) {
                return 0;
            }
            int step = hour % period;
            int still = rangeOf(hour / period) * Math.abs(2 * step - period) / period;
            return Math.max(0, still + wind);
        }

        int waterIn(int hour) {
            return waterWith(hour, wind);
        }

        int depthBy(int water, int place) {
            int height = place >= 0 && place < ground.length ? ground[place] : 0;
            return water > height ? water - height : 0;
        }

        int printedBy(int edition, int tide) {
            return period * tide + edition + at(errors, tide);
        }

        int draw() {
            seed = 1103515245 * seed + 12345;
            return seed >>> 16 & 32767;
        }

        void blow() {
            wind = 0;
            if (draw() % 100 < storm) {
                wind = draw() % (2 * STRONGEST_WIND + 1) - STRONGEST_WIND;
            }
        }

        void addRow(int hour, int number, int kind, int place) {
            put(logRows, logged % LOG_ROWS, hour | number << 14 | kind << 17 | place << 18);
            logged++;
        }

        int loggedRows() {
            return Math.min(logged, LOG_ROWS);
        }

        private int row(int ago) {
            return at(logRows, (logged - 1 - ago) % LOG_ROWS);
        }

        int loggedHour(int ago) {
            return row(ago) & 16383;
        }

        int loggedNumber(int ago) {
            return row(ago) >> 14 & 7;
        }

        int loggedKind(int ago) {
            return row(ago) >> 17 & 1;
        }

        int loggedPlace(int ago) {
            return row(ago) >> 18 & 15;
        }
    }

    /** The tape as words, numbers and signs, one at a time; remembers the first wrong byte. */
    private static final class Text {
        static final int END = 0;
        static final int WORD = 1;
        static final int NUMBER = 2;
        static final int SIGN = 3;

        static final int GROUND = 0;
        static final int PERIOD = 1;
        static final int ROUND = 2;
        static final int RANGE = 3;
        static final int DUTY = 4;
        static final int STORM = 5;
        static final int EDITION = 6;
        static final int ERROR = 7;
        static final int PACE = 8;
        static final int GOAL = 9;
        static final int FROM = 10;
        static final int TO = 11;
        static final int MORE = 12;
        static final int LESS = 13;
        static final int WADE = 14;
        static final int WAIT = 15;
        static final int TIRE = 16;
        static final int IF = 17;
        static final int OR = 18;
        static final int AND = 19;
        static final int NOT = 20;
        static final int MONK = 21;
        static final int PLACE = 22;
        static final int DEPTH = 23;
        static final int STEP = 24;
        static final int TIRED = 25;
        static final int HOUR = 26;
        static final int RISING = 27;
        static final int THERE = 28;
        // In the order of their numbers, a blank behind each.
        private static final String WORDS =
                "ground period round range duty storm edition error pace goal from to more less wade wait tire if or and not monk place depth step tired hour rising there ";
        private static final int MOST_DIGITS = 3;

        private final Tape tape;
        private final char[] words = WORDS.toCharArray();
        private int kind = END;
        private int value = 0;
        private int begin = 0;
        private int behind = 0;
        int wrong = NONE;

        Text(Tape tape) {
            this.tape = tape;
        }

        void open() {
            wrong = NONE;
            behind = 0;
            next();
        }

        void next() {
            int length = Math.min(tape.length, tape.bytes.length);
            begin = behind;
            while (begin < length && tape.bytes[begin] == ' ') {
                begin++;
            }
            behind = begin;
            if (begin >= length) {
                kind = END;
                return;
            }
            int first = tape.bytes[begin];
            kind = kindOf(first);
            behind = begin + 1;
            while (behind < length && kind != SIGN && kindOf(tape.bytes[behind]) == kind) {
                behind++;
            }
            value = kind == WORD ? wordNumber() : kind == NUMBER ? digits() : first;
        }

        private static int kindOf(int sign) {
            if (sign >= 'a' && sign <= 'z') {
                return WORD;
            }
            return sign >= '0' && sign <= '9' ? NUMBER : SIGN;
        }

        /** The number of the word that stands here among WORDS; NONE, if it is none of them. */
        private int wordNumber() {
            int number = 0;
            int place = begin;
            boolean same = true;
            for (int i = 0; i < words.length; i++) {
                if (words[i] == ' ') {
                    if (same && place == behind) {
                        return number;
                    }
                    number++;
                    place = begin;
                    same = true;
                } else {
                    same = same && place < behind && place < tape.bytes.length && tape.bytes[place] == words[i];
                    place++;
                }
            }
            return NONE;
        }

        /** NONE stands for a number of too many digits: it is within no bounds. */
        private int digits() {
            if (behind - begin > MOST_DIGITS) {
                return NONE;
            }
            int sum = 0;
            for (int i = begin; i < behind && i < tape.bytes.length; i++) {
                sum = 10 * sum + tape.bytes[i] - '0';
            }
            return sum;
        }

        boolean ended() {
            return kind == END;
        }

        /** The number of the word here; NONE, if there is none, or another thing. */
        int word() {
            return kind == WORD ? value : NONE;
        }

        boolean isSign(char sign) {
            return kind == SIGN && value == sign;
        }

        /** A number of at most three digits, or NONE. */
        int plainNumber() {
            return kind == NUMBER ? value : NONE;
        }

        boolean miss() {
            if (wrong == NONE) {
                wrong = begin;
            }
            return false;
        }

        boolean skipWord(int word) {
            if (word() != word) {
                return false;
            }
            next();
            return true;
        }

        boolean takeWord(int word) {
            if (word() != word) {
                return miss();
            }
            next();
            return true;
        }

        boolean takeSign(char sign) {
            if (!isSign(sign)) {
                return miss();
            }
            next();
            return true;
        }

        /** The number here, which must be within these bounds; NONE, if it is not. */
        int takeNumber(int least, int greatest) {
            int number = plainNumber();
            if (number == NONE || number < least || number > greatest) {
                miss();
                return NONE;
            }
            next();
            return number;
        }
    }

    /** Reads a text of the coast into a world. */
    private static final class CoastReader {
        private static final int LONGEST_PERIOD = 24;
        private static final int LONGEST_ROUND = 28;
        private static final int GREATEST_RANGE = 30;
        private static final int LAST_DUTY_HOUR = 999;
        private static final int NO_CHANGE = -9;

        private final Text text;

        CoastReader(Text text) {
            this.text = text;
        }

        /** The first wrong byte, or NONE; of a wrong text the world may have taken a part. */
        int read(World into) {
            text.open();
            if (text.ended()) {
                return NONE;
            }
            for (int lines = 0; lines <= COAST_LINES; lines++) {
                if (lines == COAST_LINES) {
                    text.miss();
                    break;
                }
                if (!line(into) || text.ended() || !text.takeSign(';')) {
                    break;
                }
            }
            return text.wrong;
        }

        private boolean line(World into) {
            int word = text.word();
            boolean tooMany = word == Text.MONK && into.monks >= MOST_MONKS
                    || word == Text.DUTY && into.duties >= MOST_DUTIES;
            if (word == NONE || tooMany) {
                return text.miss();
            }
            switch (word) {
                case Text.GROUND:
                    return groundLine(into);
                case Text.PERIOD:
                    return periodLine(into);
                case Text.ROUND:
                    return roundLine(into);
                case Text.RANGE:
                    return rangeLine(into);
                case Text.MONK:
                    return monkLine(into);
                case Text.DUTY:
                    return dutyLine(into);
                case Text.STORM:
                    return stormLine(into);
                case Text.EDITION:
                    return editionLine(into);
                case Text.ERROR:
                    return errorLine(into);
                default:
                    return text.miss();
            }
        }

        private boolean groundLine(World into) {
            text.next();
            int place = text.takeNumber(0, PLACES - 1);
            int height = place == NONE ? NONE : text.takeNumber(0, HIGHEST_GROUND);
            if (height == NONE) {
                return false;
            }
            put(into.ground, place, height);
            return true;
        }

        private boolean periodLine(World into) {
            text.next();
            int period = text.takeNumber(4, LONGEST_PERIOD);
            if (period == NONE) {
                return false;
            }
            into.period = period;
            return true;
        }

        private boolean roundLine(World into) {
            text.next();
            int round = text.takeNumber(2, LONGEST_ROUND);
            if (round == NONE) {
                return false;
            }
            into.round = round;
            return true;
        }

        private boolean rangeLine(World into) {
            text.next();
            int neap = text.takeNumber(0, GREATEST_RANGE);
            if (neap == NONE || !text.takeWord(Text.TO)) {
                return false;
            }
            int spring = text.takeNumber(neap, GREATEST_RANGE);
            if (spring == NONE) {
                return false;
            }
            into.neap = neap;
            into.spring = spring;
            return true;
        }

        private boolean monkLine(World into) {
            text.next();
            int place = text.takeNumber(0, PLACES - 1);
            if (place == NONE || !text.takeWord(Text.PACE)) {
                return false;
            }
            int pace = text.takeNumber(1, FASTEST);
            if (pace == NONE) {
                return false;
            }
            int goal = text.skipWord(Text.GOAL) ? text.takeNumber(0, PLACES - 1) : place;
            if (goal == NONE) {
                return false;
            }
            into.addMonk(place, pace, goal);
            return true;
        }

        private boolean dutyLine(World into) {
            text.next();
            int place = text.takeNumber(0, PLACES - 1);
            if (place == NONE || !text.takeWord(Text.FROM)) {
                return false;
            }
            int from = text.takeNumber(0, LAST_DUTY_HOUR);
            if (from == NONE || !text.takeWord(Text.TO)) {
                return false;
            }
            int to = text.takeNumber(from, LAST_DUTY_HOUR);
            if (to == NONE) {
                return false;
            }
            into.addDuty(place, from, to);
            return true;
        }

        private boolean stormLine(World into) {
            text.next();
            int storm = text.takeNumber(0, 100);
            if (storm == NONE) {
                return false;
            }
            into.storm = storm;
            return true;
        }

        private boolean editionLine(World into) {
            text.next();
            int change = change();
            if (change == NO_CHANGE) {
                return false;
            }
            into.edition = change;
            return true;
        }

        private boolean errorLine(World into) {
            text.next();
            int tide = text.takeNumber(0, BOOK_TIDES - 1);
            int change = tide == NONE ? NO_CHANGE : change();
            if (change == NO_CHANGE) {
                return false;
            }
            put(into.errors, tide, change);
            return true;
        }

        /** What "more N" or "less N" tells. */
        private int change() {
            int word = text.word();
            if (word != Text.MORE && word != Text.LESS) {
                text.miss();
                return NO_CHANGE;
            }
            text.next();
            int n = text.takeNumber(0, FURTHEST_PRINT);
            if (n == NONE) {
                return NO_CHANGE;
            }
            return word == Text.MORE ? n : -n;
        }
    }

    /** The law's lines; each condition is a row of steps for a stack, parts ahead of their sign. */
    private static final class Law {
        /** A step below this is a number itself; above, the number of a word or sign is added. */
        static final int MARK = 1000;
        private static final int STACK = 40;

        int lines = NONE;
        private final int[] kinds = new int[LAW_LINES];
        private final int[] amounts = new int[LAW_LINES];
        private final int[] ends = new int[LAW_LINES];
        private final int[] steps = new int[TAPE_BYTES];
        private int size = 0;
        private final int[] stack = new int[STACK];
        private int top = 0;

        void copyFrom(Law other) {
            lines = other.lines;
            size = other.size;
            copyRow(other.kinds, kinds);
            copyRow(other.amounts, amounts);
            copyRow(other.ends, ends);
            copyRow(other.steps, steps);
        }

        void clear() {
            lines = 0;
            size = 0;
        }

        void addStep(int step) {
            put(steps, size, step);
            size++;
        }

        /** The steps that came since the line before are this line's condition. */
        void addLine(int kind, int amount) {
            put(kinds, lines, kind);
            put(amounts, lines, amount);
            put(ends, lines, size);
            lines++;
        }

        int wades(World world, int monk, int water) {
            return 1 + sumOf(Text.WADE, world, monk, water);
        }

        boolean waits(World world, int monk, int water) {
            return sumOf(Text.WAIT, world, monk, water) > 0;
        }

        int tires(World world, int monk, int water) {
            return sumOf(Text.TIRE, world, monk, water);
        }

        private int sumOf(int kind, World world, int monk, int water) {
            int sum = 0;
            int from = 0;
            for (int line = 0; line < lines && line < LAW_LINES; line++) {
                int to = at(ends, line);
                if (at(kinds, line) == kind && holds(from, to, world, monk, water)) {
                    sum += at(amounts, line);
                }
                from = to;
            }
            return sum;
        }

        private boolean holds(int from, int to, World world, int monk, int water) {
            if (from >= to) {
                return true;
            }
            top = 0;
            for (int i = from; i < to; i++) {
                int step = at(steps, i);
                int mark = step - MARK;
                if (mark < 0) {
                    push(step);
                } else if (mark >= Text.MONK && mark <= Text.THERE) {
                    push(termOf(mark, world, monk, water));
                } else if (mark == Text.NOT) {
                    push(1 - pop());
                } else {
                    join(mark);
                }
            }
            return pop() != 0;
        }

        private static int termOf(int word, World world, int monk, int water) {
            int place = world.monkCell(monk, World.PLACE);
            int step = world.stepOf(world.hour);
            switch (word) {
                case Text.MONK:
                    return monk;
                case Text.PLACE:
                    return place;
                case Text.DEPTH:
                    return world.depthBy(water, place);
                case Text.STEP:
                    return step;
                case Text.TIRED:
                    return world.monkCell(monk, World.TIRED);
                case Text.HOUR:
                    return world.hour % HOURS_OF_DAY;
                case Text.RISING:
                    return 2 * step >= world.period ? 1 : 0;
                default:
                    return place == world.monkCell(monk, World.GOAL) ? 1 : 0;
            }
        }

        private void join(int sign) {
            int right = pop();
            int left = pop();
            switch (sign) {
                case '+':
                    push(left + right);
                    break;
                case '<':
                    push(left < right ? 1 : 0);
                    break;
                case '>':
                    push(left > right ? 1 : 0);
                    break;
                case Text.AND:
                    push(left & right);
                    break;
                default:
                    push(left | right);
                    break;
            }
        }

        private void push(int value) {
            if (top >= 0 && top < stack.length) {
                stack[top] = value;
                top++;
            }
        }

        private int pop() {
            if (top <= 0 || top > stack.length) {
                return 0;
            }
            top--;
            return stack[top];
        }
    }

    /** Reads a text of the law into a law. */
    private static final class LawReader {
        private static final int GREATEST_AMOUNT = 9;

        private final Text text;
        private final Law into;

        LawReader(Text text, Law into) {
            this.text = text;
            this.into = into;
        }

        /** The first wrong byte, or NONE; of a wrong text the law may have taken a part. */
        int read() {
            into.clear();
            text.open();
            if (text.ended()) {
                return NONE;
            }
            for (int lines = 0; lines <= LAW_LINES; lines++) {
                if (lines == LAW_LINES) {
                    text.miss();
                    break;
                }
                if (!line() || text.ended() || !text.takeSign(';')) {
                    break;
                }
            }
            return text.wrong;
        }

        private boolean line() {
            int kind = text.word();
            if (kind != Text.WADE && kind != Text.WAIT && kind != Text.TIRE) {
                return text.miss();
            }
            text.next();
            int amount = kind == Text.WAIT ? 1 : text.takeNumber(0, GREATEST_AMOUNT);
            if (amount == NONE) {
                return false;
            }
            if (text.skipWord(Text.IF) && !condition(0)) {
                return false;
            }
            into.addLine(kind, amount);
            return true;
        }

        /** ALL { or ALL }: an "or" is joined only when the next ALL is whole. */
        private boolean condition(int nested) {
            boolean ok = atom(nested);
            boolean open = false;
            for (int i = 0; ok && i < TAPE_BYTES; i++) {
                if (text.skipWord(Text.AND)) {
                    ok = atom(nested);
                    into.addStep(Law.MARK + Text.AND);
                } else if (text.skipWord(Text.OR)) {
                    if (open) {
                        into.addStep(Law.MARK + Text.OR);
                    }
                    open = true;
                    ok = atom(nested);
                } else {
                    break;
                }
            }
            if (open) {
                into.addStep(Law.MARK + Text.OR);
            }
            return ok;
        }

        private boolean atom(int nested) {
            int word = text.word();
            if (word == Text.NOT || text.isSign('(')) {
                if (nested >= MOST_NESTED) {
                    return text.miss();
                }
                text.next();
                if (word != Text.NOT) {
                    return condition(nested + 1) && text.takeSign(')');
                }
                boolean ok = atom(nested + 1);
                into.addStep(Law.MARK + Text.NOT);
                return ok;
            }
            if (word == Text.RISING || word == Text.THERE) {
                into.addStep(Law.MARK + word);
                text.next();
                return true;
            }
            if (!sum()) {
                return false;
            }
            char sign = text.isSign('<') ? '<' : '>';
            boolean ok = text.takeSign(sign) && sum();
            into.addStep(Law.MARK + sign);
            return ok;
        }

        private boolean sum() {
            for (int parts = 0; parts < TAPE_BYTES; parts++) {
                int number = text.plainNumber();
                int word = text.word();
                boolean term = word >= Text.MONK && word <= Text.HOUR;
                if (number == NONE && !term) {
                    return text.miss();
                }
                into.addStep(term ? Law.MARK + word : number);
                text.next();
                if (parts > 0) {
                    into.addStep(Law.MARK + '+');
                }
                if (!text.isSign('+')) {
                    return true;
                }
                text.next();
            }
            return text.miss();
        }
    }

    /** Lets hours go by in a world. */
    private static final class Clock {
        /** How many duties were kept in these hours; without winds the wind stays as it is. */
        static int run(World world, Law law, int hours, boolean winds) {
            int before = Integer.bitCount(world.kept);
            for (int i = 0; i < hours; i++) {
                if (winds && world.stepOf(world.hour) == 0) {
                    world.blow();
                }
                walkAll(world, law);
                keepAll(world);
                int was = world.hour;
                world.hour = Math.min(LAST_HOUR, was + 1);
                drownAll(world, law, was);
            }
            return Integer.bitCount(world.kept) - before;
        }

        private static void walkAll(World world, Law law) {
            int water = world.waterIn(world.hour);
            for (int monk = 0; monk < world.monks; monk++) {
                if (!world.isDrowned(monk)) {
                    if (!law.waits(world, monk, water)) {
                        walk(world, monk, law.wades(world, monk, water), water);
                    }
                    int tired = world.monkCell(monk, World.TIRED) + law.tires(world, monk, water);
                    world.setMonkCell(monk, World.TIRED, Math.min(MOST_TIRED, tired));
                }
            }
        }

        private static void walk(World world, int monk, int wades, int water) {
            int place = world.monkCell(monk, World.PLACE);
            int goal = world.monkCell(monk, World.GOAL);
            int pace = world.monkCell(monk, World.PACE);
            for (int i = 0; i < pace && place != goal; i++) {
                int next = place < goal ? place + 1 : place - 1;
                if (world.depthBy(water, next) > wades) {
                    break;
                }
                place = next;
            }
            world.setMonkCell(monk, World.PLACE, place);
        }

        private static void keepAll(World world) {
            int manned = 0;
            for (int monk = 0; monk < world.monks; monk++) {
                if (!world.isDrowned(monk)) {
                    manned |= 1 << world.monkCell(monk, World.PLACE);
                }
            }
            for (int duty = 0; duty < world.duties; duty++) {
                int place = world.dutyCell(duty, World.PLACE);
                boolean now = world.hour >= world.dutyCell(duty, World.FROM)
                        && world.hour <= world.dutyCell(duty, World.TO);
                if (now && !world.isKept(duty) && has(manned, place)) {
                    world.kept |= 1 << duty;
                    world.addRow(world.hour, duty, World.KEPT_ROW, place);
                }
            }
        }

        private static void drownAll(World world, Law law, int loggedHour) {
            int water = world.waterIn(world.hour);
            for (int monk = 0; monk < world.monks; monk++) {
                int place = world.monkCell(monk, World.PLACE);
                if (!world.isDrowned(monk)
                        && world.depthBy(water, place) > law.wades(world, monk, water) + DROWNS_ABOVE) {
                    world.drowned |= 1 << monk;
                    world.addRow(loggedHour, monk, World.DROWNED_ROW, place);
                }
            }
        }
    }

    /** Ways over the flats: the places that one can be at, as bits, hour by hour. */
    private static final class Ways {
        // Bits of the places whose ground is as high as the index, or higher.
        private final int[] asHigh = new int[HIGHEST_GROUND + 2];

        /** Must be called ahead of any other question about this world's ground. */
        void look(World world) {
            for (int height = 0; height < asHigh.length; height++) {
                int places = 0;
                for (int place = 0; place < PLACES; place++) {
                    if (at(world.ground, place) >= height) {
                        places |= 1 << place;
                    }
                }
                asHigh[height] = places;
            }
        }

        /** The places that are no deeper than that in this hour. */
        int openPlaces(World world, int hour, int depth) {
            int height = world.waterWith(hour, world.wind) - depth;
            return at(asHigh, Math.max(0, Math.min(HIGHEST_GROUND + 1, height)));
        }

        int fewestHours(World world, int from, int to, int pace, int depth, int hour) {
            if (from == to) {
                return 0;
            }
            int here = 1 << from;
            int open = openPlaces(world, hour, depth);
            for (int hours = 1; hours <= LONGEST_WAY; hours++) {
                for (int i = 0; i < pace; i++) {
                    here |= (here << 1 | here >> 1) & open;
                }
                open = openPlaces(world, hour + hours, depth);
                here &= open;
                if (has(here, to)) {
                    return hours;
                }
            }
            return NONE;
        }

        /** How long a monk's own way to a place takes from now on. */
        int hoursOfMonk(World world, int monk, int place) {
            int from = world.monkCell(monk, World.PLACE);
            return fewestHours(world, from, place, world.monkCell(monk, World.PACE), WALK_DEPTH, world.hour);
        }
    }

    /** Who is sent where, and which duties one can keep in a row. */
    private static final class Errands {
        // More than all monks' longest ways together.
        private static final int TOO_FAR = 100000;

        private final Ways ways;
        private final int[] hoursTo = new int[MOST_MONKS * MOST_MONKS];
        private final int[] fewest = new int[1 << MOST_MONKS];
        private final int[] sentTo = new int[MOST_MONKS];
        private final int[] row = new int[MOST_DUTIES];
        private final int[] best = new int[MOST_DUTIES];
        private int most = 0;

        Errands(Ways ways) {
            this.ways = ways;
        }

        /** The fewest hours in which all who are not drowned reach these places; NONE. */
        int sendAll(World world, int[] places, int told) {
            measure(world, places, told);
            int all = (1 << told) - 1;
            put(fewest, all, 0);
            for (int used = all - 1; used >= 0; used--) {
                int walker = Integer.bitCount(used);
                int least = TOO_FAR;
                for (int to = 0; to < told; to++) {
                    if (!has(used, to)) {
                        least = Math.min(least, hoursBy(used, walker, to));
                    }
                }
                put(fewest, used, least);
            }
            if (at(fewest, 0) >= TOO_FAR) {
                return NONE;
            }
            choose(world, told);
            return at(fewest, 0);
        }

        private void measure(World world, int[] places, int told) {
            ways.look(world);
            int walker = 0;
            for (int monk = 0; monk < world.monks; monk++) {
                if (!world.isDrowned(monk)) {
                    for (int to = 0; to < told; to++) {
                        int hours = ways.hoursOfMonk(world, monk, at(places, to));
                        put(hoursTo, walker * MOST_MONKS + to, hours == NONE ? TOO_FAR : hours);
                    }
                    walker++;
                }
            }
        }

        /** The hours of a walker to a place and of all who come behind it, these places being used. */
        private int hoursBy(int used, int walker, int to) {
            return at(hoursTo, walker * MOST_MONKS + to) + at(fewest, used | 1 << to);
        }

        /** Gives each monk in turn the least place with which the fewest hours can still be met. */
        private void choose(World world, int told) {
            int used = 0;
            int walker = 0;
            for (int monk = 0; monk < world.monks; monk++) {
                put(sentTo, monk, NONE);
                if (!world.isDrowned(monk)) {
                    int chosen = leastPlace(used, walker, told);
                    put(sentTo, monk, chosen);
                    used |= 1 << chosen;
                    walker++;
                }
            }
        }

        private int leastPlace(int used, int walker, int told) {
            for (int to = 0; to < told; to++) {
                if (!has(used, to) && hoursBy(used, walker, to) == at(fewest, used)) {
                    return to;
                }
            }
            return 0;
        }

        int sentTo(int monk) {
            return at(sentTo, monk);
        }

        int keepMost(World world, int monk) {
            ways.look(world);
            most = 0;
            int place = world.monkCell(monk, World.PLACE);
            tryRows(world, world.monkCell(monk, World.PACE), place, world.hour, world.kept, 0);
            return most;
        }

        /** Goes through the rows in their order, so the first of a length is the one to keep. */
        private void tryRows(World world, int pace, int place, int hour, int used, int length) {
            if (length > most) {
                most = length;
                copyRow(row, best);
            }
            if (length >= MOST_DUTIES) {
                return;
            }
            for (int duty = 0; duty < world.duties; duty++) {
                if (!has(used, duty)) {
                    int next = world.dutyCell(duty, World.PLACE);
                    int hours = ways.fewestHours(world, place, next, pace, WALK_DEPTH, hour);
                    int kept = Math.max(hour + hours, world.dutyCell(duty, World.FROM));
                    if (hours != NONE && kept <= world.dutyCell(duty, World.TO)) {
                        put(row, length, duty);
                        tryRows(world, pace, next, kept, used | 1 << duty, length + 1);
                    }
                }
            }
        }

        int keptAs(int k) {
            return at(best, k);
        }
    }

    /** The worlds ahead of the latest acts. */
    private static final class Past {
        private final World[] worlds = new World[MEMORY];
        private int oldest = 0;
        int size = 0;

        Past() {
            for (int i = 0; i < worlds.length; i++) {
                worlds[i] = new World();
            }
        }

        void remember(World now) {
            if (size == MEMORY) {
                oldest = (oldest + 1) % MEMORY;
                size--;
            }
            World free = worldAt(size);
            if (free != null) {
                free.copyFrom(now);
                size++;
            }
        }

        boolean recall(World into) {
            World latest = size > 0 ? worldAt(size - 1) : null;
            if (latest == null) {
                return false;
            }
            into.copyFrom(latest);
            size--;
            return true;
        }

        private World worldAt(int index) {
            int slot = (oldest + index) % MEMORY;
            return slot >= 0 && slot < worlds.length ? worlds[slot] : null;
        }

        void forget() {
            size = 0;
        }
    }
}

import java.util.ArrayDeque;
import java.util.ArrayList;
import java.util.Arrays;
import java.util.Deque;
import java.util.List;
import java.util.NoSuchElementException;

/**
 * The document once more, written as plainly as can be and unlike the class itself: rows of
 * objects, trees, all orders tried one by one. OracleTest compares the two on random runs.
 */
final class Oracle {
    static final class Monk {
        int place;
        int goal;
        int pace;
        int tired;
        boolean drowned;

        Monk copy() {
            Monk m = new Monk();
            m.place = place;
            m.goal = goal;
            m.pace = pace;
            m.tired = tired;
            m.drowned = drowned;
            return m;
        }
    }

    static final class Duty {
        int place;
        int from;
        int to;
        boolean kept;

        Duty copy() {
            Duty d = new Duty();
            d.place = place;
            d.from = from;
            d.to = to;
            d.kept = kept;
            return d;
        }
    }

    /** A tree of a condition or a sum: its kind, its number, its parts. */
    record Tree(String kind, int number, List<Tree> parts) {
        static Tree of(String kind, Tree... parts) {
            return new Tree(kind, 0, List.of(parts));
        }
    }

    record Line(String kind, int n, Tree condition) {
    }

    static final class State {
        int hour;
        int wind;
        int seed = 1;
        int edition;
        int storm;
        int period = 12;
        int round = 14;
        int neap = 6;
        int spring = 12;
        int texts;
        int[] ground = new int[12];
        int[] errors = new int[12];
        List<Monk> monks = new ArrayList<>();
        List<Duty> duties = new ArrayList<>();
        List<int[]> log = new ArrayList<>();
        List<Line> law;

        State copy() {
            State s = new State();
            s.hour = hour;
            s.wind = wind;
            s.seed = seed;
            s.edition = edition;
            s.storm = storm;
            s.period = period;
            s.round = round;
            s.neap = neap;
            s.spring = spring;
            s.texts = texts;
            s.ground = ground.clone();
            s.errors = errors.clone();
            monks.forEach(m -> s.monks.add(m.copy()));
            duties.forEach(d -> s.duties.add(d.copy()));
            s.log.addAll(log);
            s.law = law;
            return s;
        }

        int range(int tide) {
            int k = tide % round;
            int far = 2 * k > round ? 2 * k - round : round - 2 * k;
            return neap + (int) Math.floor((spring - neap) * (long) far / (double) round);
        }

        int water(int hour, int wind) {
            int tide = hour / period;
            int step = hour - tide * period;
            int far = 2 * step > period ? 2 * step - period : period - 2 * step;
            int still = (int) Math.floor(range(tide) * (long) far / (double) period);
            return Math.max(0, still + wind);
        }

        int depth(int place, int hour) {
            return Math.max(0, water(hour, wind) - ground[place]);
        }

        int draw() {
            long next = 1103515245L * seed + 12345L;
            seed = (int) (next & 0xffffffffL);
            return (int) ((next >> 16) & 0x7fff);
        }

        int sum(Tree t, int monk) {
            Monk m = monks.get(monk);
            return switch (t.kind) {
                case "number" -> t.number;
                case "+" -> sum(t.parts.get(0), monk) + sum(t.parts.get(1), monk);
                case "monk" -> monk;
                case "place" -> m.place;
                case "depth" -> depth(m.place, hour);
                case "step" -> hour % period;
                case "tired" -> m.tired;
                case "hour" -> hour % 24;
                default -> throw new AssertionError(t.kind);
            };
        }

        boolean holds(Tree t, int monk) {
            if (t == null) {
                return true;
            }
            Monk m = monks.get(monk);
            return switch (t.kind) {
                case "or" -> holds(t.parts.get(0), monk) || holds(t.parts.get(1), monk);
                case "and" -> holds(t.parts.get(0), monk) && holds(t.parts.get(1), monk);
                case "not" -> !holds(t.parts.get(0), monk);
                case "rising" -> 2 * (hour % period) >= period;
                case "there" -> m.place == m.goal;
                case "<" -> sum(t.parts.get(0), monk) < sum(t.parts.get(1), monk);
                case ">" -> sum(t.parts.get(0), monk) > sum(t.parts.get(1), monk);
                default -> throw new AssertionError(t.kind);
            };
        }

        int lawSum(String kind, int monk) {
            int sum = 0;
            if (law != null) {
                for (Line line : law) {
                    if (line.kind.equals(kind) && holds(line.condition, monk)) {
                        sum += line.n;
                    }
                }
            }
            return sum;
        }

        int wades(int monk) {
            return 1 + lawSum("wade", monk);
        }

        boolean waits(int monk) {
            return lawSum("wait", monk) > 0;
        }

        int hourMore(boolean winds) {
            int kept = 0;
            if (winds && hour % period == 0) {
                wind = 0;
                if (draw() % 100 < storm) {
                    wind = draw() % 11 - 5;
                }
            }
            for (int i = 0; i < monks.size(); i++) {
                Monk m = monks.get(i);
                if (m.drowned) {
                    continue;
                }
                if (!waits(i) && m.place != m.goal) {
                    int wades = wades(i);
                    int left = m.pace;
                    while (left > 0 && m.place != m.goal) {
                        int next = m.place + Integer.signum(m.goal - m.place);
                        if (depth(next, hour) > wades) {
                            break;
                        }
                        m.place = next;
                        left--;
                    }
                }
                m.tired = Math.min(9, m.tired + lawSum("tire", i));
            }
            for (int i = 0; i < duties.size(); i++) {
                Duty d = duties.get(i);
                if (!d.kept && d.from <= hour && hour <= d.to
                        && monks.stream().anyMatch(m -> !m.drowned && m.place == d.place)) {
                    d.kept = true;
                    kept++;
                    log.add(new int[] {hour, i, 0, d.place});
                }
            }
            int was = hour;
            hour = Math.min(9999, hour + 1);
            for (int i = 0; i < monks.size(); i++) {
                Monk m = monks.get(i);
                if (!m.drowned && depth(m.place, hour) - wades(i) > 3) {
                    m.drowned = true;
                    log.add(new int[] {was, i, 1, m.place});
                }
            }
            while (log.size() > 60) {
                log.remove(0);
            }
            return kept;
        }

        int run(int n, boolean winds) {
            int kept = 0;
            for (int i = 0; i < n; i++) {
                kept += hourMore(winds);
            }
            return kept;
        }

        /** Goes from hour to hour through all places that one may be at. */
        int way(int from, int to, int pace, int d, int start) {
            if (from == to) {
                return 0;
            }
            boolean[] at = new boolean[12];
            at[from] = true;
            for (int t = 0; t < 60; t++) {
                boolean[] next = new boolean[12];
                for (int p = 0; p < 12; p++) {
                    if (!at[p]) {
                        continue;
                    }
                    next[p] = true;
                    for (int way = -1; way <= 1; way += 2) {
                        int q = p;
                        for (int s = 0; s < pace; s++) {
                            q += way;
                            if (q < 0 || q > 11 || depth(q, start + t) > d) {
                                break;
                            }
                            next[q] = true;
                        }
                    }
                }
                for (int p = 0; p < 12; p++) {
                    at[p] = next[p] && depth(p, start + t + 1) <= d;
                }
                if (at[to]) {
                    return t + 1;
                }
            }
            return -1;
        }

        int monkWay(int monk, int to) {
            return way(monks.get(monk).place, to, monks.get(monk).pace, 1, hour);
        }

        int printed(int edition, int tide) {
            return period * tide + edition + errors[tide];
        }

        int drownedBits() {
            int bits = 0;
            for (int i = 0; i < monks.size(); i++) {
                bits |= monks.get(i).drowned ? 1 << i : 0;
            }
            return bits;
        }

        int keptBits() {
            int bits = 0;
            for (int i = 0; i < duties.size(); i++) {
                bits |= duties.get(i).kept ? 1 << i : 0;
            }
            return bits;
        }
    }

    private State s = new State();
    private State image;
    private final Deque<State> past = new ArrayDeque<>();
    private byte[] tape = new byte[0];
    private int fault = -1;

    private static final class Wrong extends Exception {
        final int at;

        Wrong(int at) {
            this.at = at;
        }
    }

    record Token(String text, int at) {
    }

    /** A text as a list of words, numbers and signs, the empty one last. */
    private static final class Reader {
        final List<Token> tokens = new ArrayList<>();
        int next = 0;

        Reader(byte[] bytes) {
            StringBuilder text = new StringBuilder();
            for (byte b : bytes) {
                text.append((char) (b & 255));
            }
            java.util.regex.Matcher m = java.util.regex.Pattern.compile("[a-z]+|[0-9]+|[^a-z0-9 ]", java.util.regex.Pattern.DOTALL).matcher(text);
            while (m.find()) {
                tokens.add(new Token(m.group(), m.start()));
            }
            tokens.add(new Token("", bytes.length));
        }

        String look() {
            return tokens.get(next).text;
        }

        int at() {
            return tokens.get(next).at;
        }

        boolean is(String text) {
            if (look().equals(text)) {
                next++;
                return true;
            }
            return false;
        }

        void must(String text) throws Wrong {
            if (!is(text)) {
                throw new Wrong(at());
            }
        }

        boolean digits() {
            return look().matches("[0-9]{1,3}");
        }

        int number(int least, int greatest) throws Wrong {
            if (!digits() || Integer.parseInt(look()) < least || Integer.parseInt(look()) > greatest) {
                throw new Wrong(at());
            }
            return Integer.parseInt(tokens.get(next++).text);
        }

        int change() throws Wrong {
            if (is("more")) {
                return number(0, 3);
            }
            must("less");
            return -number(0, 3);
        }

        void coastLine(State w) throws Wrong {
            int at = at();
            switch (look()) {
                case "ground" -> {
                    next++;
                    int place = number(0, 11);
                    w.ground[place] = number(0, 19);
                }
                case "period" -> {
                    next++;
                    w.period = number(4, 24);
                }
                case "round" -> {
                    next++;
                    w.round = number(2, 28);
                }
                case "range" -> {
                    next++;
                    w.neap = number(0, 30);
                    must("to");
                    w.spring = number(w.neap, 30);
                }
                case "monk" -> {
                    next++;
                    if (w.monks.size() == 6) {
                        throw new Wrong(at);
                    }
                    Monk m = new Monk();
                    m.place = number(0, 11);
                    must("pace");
                    m.pace = number(1, 4);
                    m.goal = is("goal") ? number(0, 11) : m.place;
                    w.monks.add(m);
                }
                case "duty" -> {
                    next++;
                    if (w.duties.size() == 6) {
                        throw new Wrong(at);
                    }
                    Duty d = new Duty();
                    d.place = number(0, 11);
                    must("from");
                    d.from = number(0, 999);
                    must("to");
                    d.to = number(d.from, 999);
                    w.duties.add(d);
                }
                case "storm" -> {
                    next++;
                    w.storm = number(0, 100);
                }
                case "edition" -> {
                    next++;
                    w.edition = change();
                }
                case "error" -> {
                    next++;
                    int tide = number(0, 11);
                    w.errors[tide] = change();
                }
                default -> throw new Wrong(at);
            }
        }

        Tree condition(int deep) throws Wrong {
            Tree t = all(deep);
            while (is("or")) {
                t = Tree.of("or", t, all(deep));
            }
            return t;
        }

        Tree all(int deep) throws Wrong {
            Tree t = atom(deep);
            while (is("and")) {
                t = Tree.of("and", t, atom(deep));
            }
            return t;
        }

        Tree atom(int deep) throws Wrong {
            int at = at();
            if (is("not")) {
                if (deep == 6) {
                    throw new Wrong(at);
                }
                return Tree.of("not", atom(deep + 1));
            }
            if (is("(")) {
                if (deep == 6) {
                    throw new Wrong(at);
                }
                Tree t = condition(deep + 1);
                must(")");
                return t;
            }
            if (is("rising")) {
                return Tree.of("rising");
            }
            if (is("there")) {
                return Tree.of("there");
            }
            Tree left = sum();
            if (is("<")) {
                return Tree.of("<", left, sum());
            }
            must(">");
            return Tree.of(">", left, sum());
        }

        Tree sum() throws Wrong {
            Tree t = part();
            while (is("+")) {
                t = Tree.of("+", t, part());
            }
            return t;
        }

        Tree part() throws Wrong {
            if (List.of("monk", "place", "depth", "step", "tired", "hour").contains(look())) {
                return Tree.of(tokens.get(next++).text);
            }
            return new Tree("number", number(0, 999), List.of());
        }

        Line lawLine() throws Wrong {
            String kind = look();
            if (!List.of("wade", "wait", "tire").contains(kind)) {
                throw new Wrong(at());
            }
            next++;
            int n = kind.equals("wait") ? 1 : number(0, 9);
            return new Line(kind, n, is("if") ? condition(0) : null);
        }
    }

    private static State readCoast(byte[] bytes, State now) throws Wrong {
        State w = now.copy();
        Reader r = new Reader(bytes);
        if (r.look().isEmpty()) {
            return w;
        }
        for (int lines = 1;; lines++) {
            if (lines > 14) {
                throw new Wrong(r.at());
            }
            r.coastLine(w);
            if (r.look().isEmpty()) {
                return w;
            }
            r.must(";");
        }
    }

    private static List<Line> readLaw(byte[] bytes) throws Wrong {
        List<Line> law = new ArrayList<>();
        Reader r = new Reader(bytes);
        if (r.look().isEmpty()) {
            return law;
        }
        while (true) {
            if (law.size() == 12) {
                throw new Wrong(r.at());
            }
            law.add(r.lawLine());
            if (r.look().isEmpty()) {
                return law;
            }
            r.must(";");
        }
    }

    private void act() {
        past.addLast(s.copy());
        if (past.size() > 12) {
            past.removeFirst();
        }
    }

    private byte[] use() {
        byte[] used = tape;
        tape = new byte[0];
        return used;
    }

    private static void index(boolean ok) {
        if (!ok) {
            throw new IndexOutOfBoundsException();
        }
    }

    private static void argument(boolean ok) {
        if (!ok) {
            throw new IllegalArgumentException();
        }
    }

    private static void element(boolean ok) {
        if (!ok) {
            throw new NoSuchElementException();
        }
    }

    private static boolean in(int n, int least, int greatest) {
        return n >= least && n <= greatest;
    }

    private boolean isPlace(int p) {
        return in(p, 0, 11);
    }

    private boolean isMonk(int m) {
        return in(m, 0, s.monks.size() - 1);
    }

    private boolean isDuty(int d) {
        return in(d, 0, s.duties.size() - 1);
    }

    private static int b(boolean yes) {
        return yes ? 1 : 0;
    }

    private static List<List<Integer>> orders(int n) {
        List<List<Integer>> all = new ArrayList<>();
        orders(n, new ArrayList<>(), all);
        return all;
    }

    private static void orders(int n, List<Integer> begun, List<List<Integer>> all) {
        if (begun.size() == n) {
            all.add(new ArrayList<>(begun));
            return;
        }
        for (int i = 0; i < n; i++) {
            if (!begun.contains(i)) {
                begun.add(i);
                orders(n, begun, all);
                begun.remove(begun.size() - 1);
            }
        }
    }

    private int send(int monk) {
        byte[] told = use();
        index(monk == -1 || isMonk(monk));
        List<Integer> alive = new ArrayList<>();
        for (int i = 0; i < s.monks.size(); i++) {
            if (!s.monks.get(i).drowned) {
                alive.add(i);
            }
        }
        argument(told.length == alive.size());
        for (byte t : told) {
            argument(isPlace(t & 255));
        }
        int n = alive.size();
        int[][] cost = new int[n][n];
        for (int i = 0; i < n; i++) {
            for (int j = 0; j < n; j++) {
                cost[i][j] = s.monkWay(alive.get(i), told[j]);
            }
        }
        int best = Integer.MAX_VALUE;
        List<Integer> bestOrder = null;
        for (List<Integer> order : orders(n)) {
            int sum = 0;
            for (int i = 0; i < n && sum >= 0; i++) {
                int way = cost[i][order.get(i)];
                sum = way < 0 ? -1 : sum + way;
            }
            if (sum >= 0 && sum < best) {
                best = sum;
                bestOrder = order;
            }
        }
        if (bestOrder == null) {
            return -1;
        }
        if (monk == -1) {
            return best;
        }
        return alive.contains(monk) ? bestOrder.get(alive.indexOf(monk)) : -1;
    }

    private void rows(Monk m, int place, int hour, List<Integer> begun, List<List<Integer>> all) {
        all.add(new ArrayList<>(begun));
        for (int i = s.duties.size() - 1; i >= 0; i--) {
            Duty d = s.duties.get(i);
            if (d.kept || begun.contains(i)) {
                continue;
            }
            int way = s.way(place, d.place, m.pace, 1, hour);
            if (way < 0) {
                continue;
            }
            int when = hour + way < d.from ? d.from : hour + way;
            if (when > d.to) {
                continue;
            }
            begun.add(i);
            rows(m, d.place, when, begun, all);
            begun.remove(begun.size() - 1);
        }
    }

    private static boolean better(List<Integer> a, List<Integer> b) {
        if (a.size() != b.size()) {
            return a.size() > b.size();
        }
        for (int i = 0; i < a.size(); i++) {
            if (!a.get(i).equals(b.get(i))) {
                return a.get(i) < b.get(i);
            }
        }
        return false;
    }

    private int most(int monk, int k) {
        index(isMonk(monk));
        Monk m = s.monks.get(monk);
        List<List<Integer>> all = new ArrayList<>();
        all.add(new ArrayList<>());
        if (!m.drowned) {
            rows(m, m.place, s.hour, new ArrayList<>(), all);
        }
        List<Integer> best = all.get(0);
        for (List<Integer> row : all) {
            best = better(row, best) ? row : best;
        }
        return k == -1 ? best.size() : in(k, 0, best.size() - 1) ? best.get(k) : -1;
    }

    private int[] told() {
        byte[] used = use();
        argument(used.length <= 40 && used.length % 2 == 0);
        int[] told = new int[used.length];
        for (int i = 0; i < used.length; i++) {
            told[i] = used[i] & 255;
            argument(told[i] <= (i % 2 == 0 ? 11 : 12));
        }
        return told;
    }

    /** Of the told rows, how many would be printed just as they came by an edition. */
    private int fits(int[] told, int edition) {
        int fits = 0;
        for (int i = 0; i < told.length; i += 2) {
            int cameAt = s.printed(s.edition, told[i]) + told[i + 1] - 6;
            fits += b(s.printed(edition, told[i]) == cameAt);
        }
        return fits;
    }

    private static int day(int hour) {
        return hour < 0 ? -7 : hour / 24;
    }

    private int odds(int n, int k) {
        java.math.BigInteger good = java.math.BigInteger.ZERO;
        for (int set = 0; set < 1 << n; set++) {
            if (Integer.bitCount(set) >= k) {
                java.math.BigInteger p = java.math.BigInteger.ONE;
                for (int i = 0; i < n; i++) {
                    p = p.multiply(java.math.BigInteger.valueOf((set >> i & 1) == 1 ? s.storm : 100 - s.storm));
                }
                good = good.add(p);
            }
        }
        return good.multiply(java.math.BigInteger.valueOf(10000)).divide(java.math.BigInteger.valueOf(100).pow(n)).intValue();
    }

    private int span(int n, boolean most) {
        int[] kept = new int[6];
        for (int i = 0; i < 6; i++) {
            State then = s.copy();
            then.seed = i + 1;
            kept[i] = then.run(n, true);
        }
        Arrays.sort(kept);
        return kept[most ? 5 : 0];
    }

    private int monk(int m, int what) {
        index(isMonk(m));
        Monk k = s.monks.get(m);
        return switch (what) {
            case 0 -> k.place;
            case 1 -> k.goal;
            case 2 -> k.pace;
            case 3 -> k.tired;
            case 4 -> b(k.drowned);
            case 5 -> s.wades(m);
            case 6 -> b(s.waits(m));
            case 7 -> s.lawSum("tire", m);
            default -> throw new NoSuchElementException();
        };
    }

    private int stranded() {
        int bits = 0;
        for (int i = 0; i < s.monks.size(); i++) {
            Monk m = s.monks.get(i);
            boolean left = m.place == 0 || s.depth(m.place - 1, s.hour) > s.wades(i);
            boolean right = m.place == 11 || s.depth(m.place + 1, s.hour) > s.wades(i);
            if (!m.drowned && s.depth(m.place, s.hour) == 0 && left && right) {
                bits |= 1 << i;
            }
        }
        return bits;
    }

    private int count(int what) {
        return switch (what) {
            case 0 -> s.monks.size();
            case 1 -> s.duties.size();
            case 2 -> s.texts;
            case 3 -> s.law == null ? -1 : s.law.size();
            case 4 -> s.hour;
            case 5 -> s.period;
            case 6 -> s.round;
            case 7 -> s.neap;
            case 8 -> s.spring;
            case 9 -> s.wind + 5;
            case 10 -> s.edition + 3;
            case 11 -> s.storm;
            case 12 -> s.keptBits();
            case 13 -> s.drownedBits();
            case 14 -> s.log.size();
            case 15 -> past.size();
            default -> -1;
        };
    }

    private int coast() {
        byte[] used = use();
        State w;
        try {
            w = readCoast(used, s);
            fault = -1;
        } catch (Wrong e) {
            fault = e.at;
            throw new IllegalArgumentException();
        }
        if (s.texts == 12) {
            throw new UnsupportedOperationException();
        }
        s = w;
        past.clear();
        return ++s.texts;
    }

    private int law() {
        try {
            s.law = readLaw(use());
            fault = -1;
        } catch (Wrong e) {
            fault = e.at;
            throw new IllegalArgumentException();
        }
        past.clear();
        return s.law.size();
    }

    private int feed(int[] a) {
        if (tape.length + 20 > 400) {
            return -1;
        }
        int old = tape.length;
        tape = Arrays.copyOf(tape, old + 20);
        for (int i = 0; i < 20; i++) {
            tape[old + i] = (byte) (a[i / 4] >> (8 * (3 - i % 4)));
        }
        return tape.length;
    }

    private int loggedHour(int place, boolean hour) {
        int rows = 0;
        int latest = -1;
        for (int[] row : s.log) {
            if (row[3] == place) {
                rows++;
                latest = row[0];
            }
        }
        return hour ? latest : rows;
    }

    private int hoursOfTide(int tide, java.util.function.IntPredicate p) {
        int n = 0;
        for (int h = tide * s.period; h < (tide + 1) * s.period; h++) {
            n += b(p.test(h));
        }
        return n;
    }

    private void needAlive(int monk) {
        if (s.monks.get(monk).drowned) {
            throw new IllegalStateException();
        }
    }

    private int tellGoal(int monk, int place) {
        index(isMonk(monk) && isPlace(place));
        needAlive(monk);
        act();
        int was = s.monks.get(monk).goal;
        s.monks.get(monk).goal = place;
        return was;
    }

    private int restMonk(int monk) {
        index(isMonk(monk));
        needAlive(monk);
        act();
        int was = s.monks.get(monk).tired;
        s.monks.get(monk).tired = 0;
        return was;
    }

    private int witness() {
        int[] told = told();
        int best = -1;
        for (int tide = 11; tide >= 0; tide--) {
            boolean known = false;
            for (int i = 0; i < told.length; i += 2) {
                known |= told[i] == tide;
            }
            if (!known && (best == -1 || Math.abs(s.errors[tide]) >= Math.abs(s.errors[best]))) {
                best = tide;
            }
        }
        return best;
    }

    private int fetch(int monk) {
        index(isMonk(monk));
        int best = -1;
        int fewest = 99;
        for (int i = 0; i < s.monks.size(); i++) {
            if (i == monk || s.monks.get(i).drowned || s.monks.get(monk).drowned) {
                continue;
            }
            int way = s.monkWay(i, s.monks.get(monk).place);
            if (way >= 0 && way < fewest) {
                fewest = way;
                best = i;
            }
        }
        return best;
    }

    private int start(int[] a) {
        index(isPlace(a[0]) && isPlace(a[1]));
        argument(in(a[2], 1, 4) && in(a[3], 0, 9) && in(a[4], 0, 400));
        int latest = -1;
        for (int h = a[4] * s.period; h < (a[4] + 1) * s.period; h++) {
            latest = s.way(a[0], a[1], a[2], a[3], h) >= 0 ? h : latest;
        }
        return latest;
    }

    private State after(int n, boolean winds) {
        argument(in(n, 0, 100));
        State then = s.copy();
        then.run(n, winds);
        return then;
    }

    /** Answers a call of the face by its name; a boolean is 1 or 0, as arguments too. */
    long call(String name, int... a) {
        switch (name) {
            case "feed":
                return feed(a);
            case "end":
                if (!in(a[0], 0, tape.length)) {
                    return 0;
                }
                tape = Arrays.copyOf(tape, a[0]);
                return 1;
            case "coast":
                return coast();
            case "law":
                return law();
            case "fault":
                return fault;
            case "ground":
                index(isPlace(a[0]));
                return s.ground[a[0]];
            case "monk":
                return monk(a[0], a[1]);
            case "duty":
                index(isDuty(a[0]));
                element(in(a[1], 0, 3));
                Duty d = s.duties.get(a[0]);
                return new int[] {d.place, d.from, d.to, b(d.kept)}[a[1]];
            case "range":
                argument(in(a[0], 0, 2499));
                return s.range(a[0]);
            case "water":
                argument(in(a[0], 0, 9999));
                return s.water(a[0], s.wind);
            case "depth":
                index(isPlace(a[0]));
                argument(in(a[1], 0, 9999));
                return s.depth(a[0], a[1]);
            case "printed":
                argument(in(a[0], 0, 11));
                return s.printed(s.edition, a[0]);
            case "goal":
                return tellGoal(a[0], a[1]);
            case "rest":
                return restMonk(a[0]);
            case "error":
                argument(in(a[0], 0, 11) && in(a[1], -3, 3));
                act();
                s.errors[a[0]] = a[1];
                return s.printed(s.edition, a[0]);
            case "edition":
                argument(in(a[0], -3, 3));
                act();
                int edition = s.edition;
                s.edition = a[0];
                return edition;
            case "wind":
                argument(in(a[0], -5, 5));
                act();
                int wind = s.wind;
                s.wind = a[0];
                return wind;
            case "anew":
                index(isDuty(a[0]));
                act();
                int kept = b(s.duties.get(a[0]).kept);
                s.duties.get(a[0]).kept = false;
                return kept;
            case "hours":
                argument(in(a[0], 1, 100));
                act();
                return s.run(a[0], true);
            default:
                return ask(name, a);
        }
    }

    private long ask(String name, int[] a) {
        switch (name) {
            case "high":
                argument(in(a[0], 0, 9999));
                int hour = a[0];
                while (hour % s.period != 0) {
                    hour++;
                }
                return hour;
            case "low":
                argument(in(a[0], 0, 400));
                int low = -1;
                for (int h = (a[0] + 1) * s.period - 1; h >= a[0] * s.period; h--) {
                    low = low < 0 || s.water(h, s.wind) <= s.water(low, s.wind) ? h : low;
                }
                return low;
            case "dry":
                index(isPlace(a[0]));
                argument(in(a[1], 0, 400));
                return hoursOfTide(a[1], h -> s.depth(a[0], h) == 0);
            case "highest":
                argument(in(a[0], 0, 400));
                int high = -1;
                for (int t = a[0] + s.round - 1; t >= a[0]; t--) {
                    high = high < 0 || s.range(t) >= s.range(high) ? t : high;
                }
                return high;
            case "way":
                index(isPlace(a[0]) && isPlace(a[1]));
                argument(in(a[2], 1, 4) && in(a[3], 0, 9) && in(a[4], 0, 9999));
                return s.way(a[0], a[1], a[2], a[3], a[4]);
            case "start":
                return start(a);
            case "safe":
                index(isPlace(a[0]) && isPlace(a[1]));
                argument(a[0] <= a[1] && in(a[2], 0, 9) && in(a[3], 0, 400));
                return hoursOfTide(a[3], h -> {
                    boolean all = true;
                    for (int p = a[0]; p <= a[1]; p++) {
                        all &= s.depth(p, h) <= a[2];
                    }
                    return all;
                });
            case "fetch":
                return fetch(a[0]);
            case "send":
                return send(a[0]);
            case "most":
                return most(a[0], a[1]);
            case "came":
                int[] told = told();
                int how = 0;
                int least = -9;
                for (int e = 3; e >= -3; e--) {
                    if (fits(told, e) * 2 == told.length) {
                        how++;
                        least = e;
                    }
                }
                return a[0] == 1 ? least : how;
            case "amends":
                int[] rows = told();
                int best = 3;
                for (int e = 3; e >= -3; e--) {
                    best = fits(rows, e) >= fits(rows, best) ? e : best;
                }
                return a[0] == 1 ? best : rows.length / 2 - fits(rows, best);
            case "witness":
                return witness();
            default:
                return askMore(name, a);
        }
    }

    private long askMore(String name, int[] a) {
        int bits = 0;
        switch (name) {
            case "clash":
                argument(in(a[0], -3, 3) && in(a[1], -3, 3));
                for (int t = 0; t < 12; t++) {
                    bits |= day(s.printed(a[0], t)) != day(s.printed(a[1], t)) ? 1 << t : 0;
                }
                return bits;
            case "blank":
                for (int t = 1; t < 12; t++) {
                    if (s.printed(s.edition, t) <= s.printed(s.edition, t - 1)) {
                        return t;
                    }
                }
                return -1;
            case "neaps":
                for (int t = 0; t < 12; t++) {
                    bits |= s.range(t) == s.neap ? 1 << t : 0;
                }
                return bits;
            case "stranded":
                return stranded();
            case "ahead":
                index(isMonk(a[0]));
                return after(a[1], false).monks.get(a[0]).place;
            case "doomed":
                return after(a[0], false).drownedBits() & ~s.drownedBits();
            case "done":
                return after(a[0], false).keptBits();
            case "lost":
                for (int i = 0; i < s.duties.size(); i++) {
                    bits |= !s.duties.get(i).kept && s.duties.get(i).to < s.hour ? 1 << i : 0;
                }
                return bits;
            case "odds":
                argument(in(a[0], 0, 6) && in(a[1], 0, 6));
                return odds(a[0], a[1]);
            case "risk":
                index(isPlace(a[0]));
                argument(in(a[1], 0, 9999) && in(a[2], 0, 9));
                int n = 0;
                for (int w = -5; w <= 5; w++) {
                    n += b(s.water(a[1], w) - s.ground[a[0]] > a[2]);
                }
                return n;
            case "trial":
                State then = after(a[0], true);
                return a[1] == 1 ? then.drownedBits() : Integer.bitCount(then.keptBits() & ~s.keptBits());
            case "span":
                argument(in(a[0], 0, 100));
                return span(a[0], a[1] == 1);
            case "led":
                index(isPlace(a[0]));
                return loggedHour(a[0], a[1] == 1);
            case "log":
                element(in(a[1], 0, 3));
                return in(a[0], 0, s.log.size() - 1) ? s.log.get(s.log.size() - 1 - a[0])[a[1]] : -1;
            case "seed":
                int seed = s.seed;
                s.seed = a[0];
                return seed;
            case "undo":
                if (past.isEmpty()) {
                    return 0;
                }
                s = past.removeLast();
                return 1;
            case "image":
                image = s.copy();
                return 0;
            case "back":
                if (image == null) {
                    return 0;
                }
                s = image.copy();
                past.clear();
                return 1;
            case "count":
                return count(a[0]);
            default:
                throw new AssertionError(name);
        }
    }
}

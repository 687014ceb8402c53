import java.util.ArrayList;
import java.util.List;
import java.util.Random;

/** Random runs of calls, each answer compared with that of the Oracle. */
public final class OracleTest {
    private static final int RUNS = 2000;
    private static final int CALLS = 512;
    private static final String[] ASKED = {"fault", "ground", "monk", "monk", "duty", "range", "water", "depth", "printed",
        "high", "low", "dry", "highest", "way", "way", "start", "safe", "fetch", "fetch", "most", "most", "clash", "blank",
        "neaps", "stranded", "stranded", "ahead", "doomed", "done", "lost", "odds", "risk", "trial", "trial", "span", "led",
        "log", "count", "count"};
    private static final String[] ACTS = {"goal", "goal", "rest", "error", "edition", "wind", "wind", "anew", "anew", "anew", "hours",
        "hours", "hours", "hours", "undo", "undo", "seed", "image", "back", "back"};

    private final Random chance;
    private final Texts texts;
    private final TideBook book = new TideBook();
    private final Oracle oracle = new Oracle();
    private final List<String> told = new ArrayList<>();
    private int calls = 0;

    private OracleTest(long seed) {
        chance = new Random(seed);
        texts = new Texts(chance);
    }

    public static void main(String[] args) {
        int runs = args.length > 0 ? Integer.parseInt(args[0]) : RUNS;
        long first = args.length > 1 ? Long.parseLong(args[1]) : 1;
        int wrong = 0;
        for (int i = 0; i < runs && wrong < 3; i++) {
            OracleTest run = new OracleTest(first + i);
            if (!run.goes()) {
                wrong++;
                System.out.println("run " + (first + i) + ":");
                run.told.forEach(System.out::println);
            }
        }
        System.out.println(runs + " random runs, " + wrong + " with an answer that is not the Oracle's");
        if (wrong != 0) {
            System.exit(1);
        }
    }

    private boolean goes() {
        // Most runs begin gently: on most coasts by chance all monks soon drown.
        boolean kind = chance.nextInt(5) > 0;
        boolean same = text("coast", kind ? texts.kindCoast() : texts.coast()) && text("coast", texts.coast());
        while (same && calls < CALLS) {
            int next = chance.nextInt(100);
            if (next < 2) {
                same = text("coast", texts.coast());
            } else if (next < 5) {
                same = text("law", texts.law());
            } else if (next < 30) {
                same = call(ACTS[chance.nextInt(ACTS.length)]);
            } else if (next < 40) {
                same = bytes();
            } else if (next < 42) {
                same = ask("feed", chance.nextInt(), 0, 7, -1, chance.nextInt()) && ask("end", chance.nextInt(30) - 2);
            } else {
                same = call(ASKED[chance.nextInt(ASKED.length)]);
            }
        }
        return same;
    }

    private boolean call(String name) {
        int[] a = new int[5];
        int size = 0;
        for (char kind : arguments(name).toCharArray()) {
            a[size++] = argument(kind);
        }
        return ask(name, java.util.Arrays.copyOf(a, size));
    }

    /** p place, m monk, d duty, w what, T tide to 2499, t to 400, o to 11, H hour, c pace, D depth, n hours, e edition .. */
    private static String arguments(String name) {
        return switch (name) {
            case "ground" -> "p";
            case "monk" -> "mw";
            case "duty" -> "dw";
            case "range" -> "T";
            case "water", "high" -> "H";
            case "depth" -> "pH";
            case "printed" -> "o";
            case "goal" -> "mp";
            case "rest", "fetch", "send" -> "m";
            case "error" -> "oe";
            case "edition" -> "e";
            case "wind" -> "x";
            case "anew" -> "d";
            case "hours", "doomed", "done" -> "n";
            case "low", "highest" -> "t";
            case "dry" -> "pt";
            case "way" -> "ppcDH";
            case "start" -> "ppcDt";
            case "safe" -> "ppDt";
            case "most" -> "mk";
            case "came", "amends" -> "b";
            case "clash" -> "ee";
            case "ahead" -> "mn";
            case "odds" -> "kk";
            case "risk" -> "pHD";
            case "trial", "span" -> "nb";
            case "led" -> "pb";
            case "log" -> "Lw";
            case "seed" -> "s";
            case "count" -> "C";
            default -> "";
        };
    }

    private int argument(char kind) {
        boolean off = chance.nextInt(40) == 0;
        if (off && kind != 'b') {
            int[] strange = {-1, -2, 12, 6, 13, 101, 401, 2500, 10000, 16, 10, 5, -6, 4, -4, Integer.MAX_VALUE, Integer.MIN_VALUE};
            return strange[chance.nextInt(strange.length)];
        }
        return switch (kind) {
            case 'p', 'o' -> chance.nextInt(12);
            case 'm', 'd' -> chance.nextInt(chance.nextInt(5) == 0 ? 6 : 3) - (chance.nextInt(9) == 0 ? 1 : 0);
            case 'w' -> chance.nextInt(8);
            case 'T' -> chance.nextInt(2500);
            case 't' -> chance.nextInt(3) == 0 ? chance.nextInt(401) : chance.nextInt(20);
            case 'H' -> chance.nextInt(3) == 0 ? chance.nextInt(10000) : chance.nextInt(200);
            case 'c' -> 1 + chance.nextInt(4);
            case 'D' -> chance.nextInt(chance.nextInt(2) == 0 ? 10 : 3);
            case 'n' -> chance.nextInt(6) == 0 ? chance.nextInt(101) : 1 + chance.nextInt(6);
            case 'e' -> chance.nextInt(7) - 3;
            case 'x' -> chance.nextInt(11) - 5;
            case 'k' -> chance.nextInt(8) - 1;
            case 'b' -> chance.nextInt(2);
            case 'L' -> chance.nextInt(chance.nextInt(3) == 0 ? 62 : 5) - (chance.nextInt(9) == 0 ? 1 : 0);
            case 's' -> chance.nextInt();
            default -> chance.nextInt(18) - 1;
        };
    }

    private boolean text(String name, String text) {
        told.add("  " + name + " '" + text + "'");
        return tape(text.chars().toArray()) && ask(name) && ask("fault");
    }

    private boolean tape(int[] bytes) {
        boolean same = ask("end", 0);
        for (int i = 0; same && i < bytes.length; i += 20) {
            int[] words = new int[5];
            for (int k = 0; k < 20 && i + k < bytes.length; k++) {
                words[k / 4] |= (bytes[i + k] & 255) << (24 - 8 * (k % 4));
            }
            same = ask("feed", words);
        }
        return same && ask("end", bytes.length);
    }

    private boolean bytes() {
        String name = new String[] {"send", "send", "came", "amends", "witness"}[chance.nextInt(5)];
        boolean sending = name.equals("send");
        if (calls + 2 > CALLS) {
            calls = CALLS;
            return true;
        }
        int alive = book.count(0) - Integer.bitCount(book.count(13));
        calls += 2;
        int size = sending ? alive : 2 * chance.nextInt(chance.nextInt(5) == 0 ? 22 : 5);
        size = chance.nextInt(12) == 0 ? size + 1 : size;
        int[] bytes = new int[size];
        int usual = chance.nextInt(13);
        for (int i = 0; i < size; i++) {
            bytes[i] = sending || i % 2 == 0 ? chance.nextInt(12) : chance.nextInt(3) == 0 ? chance.nextInt(13) : usual;
            bytes[i] = chance.nextInt(60) == 0 ? chance.nextInt(256) : bytes[i];
        }
        told.add("  tape " + java.util.Arrays.toString(bytes));
        return tape(bytes) && call(name);
    }

    private boolean ask(String name, int... numbers) {
        // what a later call answers is free
        if (calls >= CALLS) {
            return true;
        }
        calls++;
        String got = Calls.of(book, name, numbers);
        String want = Calls.of(oracle, name, numbers);
        if (!name.equals("feed") && !name.equals("end")) {
            told.add("  " + name + java.util.Arrays.toString(numbers) + " -> " + got);
        }
        if (!got.equals(want)) {
            told.add("  " + name + java.util.Arrays.toString(numbers) + " answered " + got + ", the Oracle says " + want);
            return false;
        }
        return true;
    }
}

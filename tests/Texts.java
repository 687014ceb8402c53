import java.util.Random;

/** Texts by chance: right ones, and ones with a slip. */
final class Texts {
    private static final String[] WORDS = {"ground", "period", "round", "range", "to", "monk", "pace", "goal", "duty",
        "from", "storm", "edition", "more", "less", "error", "wade", "wait", "tire", "if", "or", "and", "not", "rising",
        "there", "place", "depth", "step", "tired", "hour", "(", ")", "<", ">", "+", ";", "7", "1000", "tide", "-", "."};
    private final Random chance;

    Texts(Random chance) {
        this.chance = chance;
    }

    int below(int n) {
        return chance.nextInt(n);
    }

    private boolean one(int in) {
        return chance.nextInt(in) == 0;
    }

    private String n(int least, int greatest) {
        String digits = String.valueOf(least + below(greatest - least + 1));
        return one(30) && digits.length() < 3 ? "0" + digits : digits;
    }

    String coast() {
        int lines = one(20) ? 10 + below(6) : 1 + below(7);
        StringBuilder text = new StringBuilder();
        for (int i = 0; i < lines; i++) {
            text.append(i == 0 ? "" : ";").append(coastLine());
        }
        return one(25) ? "" : slip(text.toString());
    }

    private String coastLine() {
        switch (below(16)) {
            case 0, 1, 2, 3:
                return "ground " + n(0, 11) + " " + n(0, 19);
            case 4:
                return "period " + n(4, 24);
            case 5:
                return "round " + n(2, 28);
            case 6:
                int neap = below(15);
                return "range " + neap + " to " + n(neap, one(3) ? 30 : Math.max(neap, 12));
            case 7, 8, 9:
                return "monk " + n(0, 11) + " pace " + n(1, 4) + (one(2) ? " goal " + n(0, 11) : "");
            case 10, 11, 12:
                int from = one(4) ? below(1000) : below(60);
                return "duty " + n(0, 11) + " from " + from + " to " + n(from, Math.min(999, from + below(40)));
            case 13:
                return "storm " + n(0, 100);
            case 14:
                return "edition " + (one(2) ? "more " : "less ") + n(0, 3);
            default:
                return "error " + n(0, 11) + (one(2) ? " more " : " less ") + n(0, 3);
        }
    }

    /** A coast on which monks live long and duties can be kept. */
    String kindCoast() {
        int neap = below(5);
        StringBuilder text = new StringBuilder("range " + neap + " to " + n(neap, neap + below(7)));
        for (int i = 0; i < 4; i++) {
            text.append(";ground ").append(n(0, 11)).append(' ').append(n(2, 9));
        }
        for (int i = 1 + below(4); i > 0; i--) {
            text.append(";monk ").append(n(0, 11)).append(" pace ").append(n(1, 4)).append(" goal ").append(n(0, 11));
        }
        for (int i = 1 + below(4); i > 0; i--) {
            int from = below(30);
            text.append(";duty ").append(n(0, 11)).append(" from ").append(from).append(" to ").append(n(from, from + below(90)));
        }
        text.append(";storm ").append(n(0, 100));
        return text.toString();
    }

    String law() {
        int lines = one(20) ? 10 + below(4) : 1 + below(5);
        StringBuilder text = new StringBuilder();
        for (int i = 0; i < lines; i++) {
            int kind = below(4);
            text.append(i == 0 ? "" : ";");
            text.append(kind == 3 ? "wait" : kind == 2 ? "tire " + n(0, 3) : "wade " + n(0, one(3) ? 9 : 3));
            text.append(kind == 3 || one(2) ? " if " + condition(below(4)) : "");
        }
        return one(25) ? "" : slip(text.toString());
    }

    private String condition(int deep) {
        StringBuilder text = new StringBuilder(atom(deep));
        for (int i = below(3); i > 0; i--) {
            text.append(one(2) ? " and " : " or ").append(atom(deep));
        }
        return text.toString();
    }

    private String atom(int deep) {
        if (deep > 0 && one(2)) {
            return one(2) ? "not " + atom(deep - 1 + below(2)) : "(" + condition(deep - 1 + below(2)) + ")";
        }
        switch (below(6)) {
            case 0:
                return "rising";
            case 1:
                return "there";
            default:
                return sum() + (one(2) ? " < " : " > ") + sum();
        }
    }

    private String sum() {
        StringBuilder text = new StringBuilder(part());
        while (one(4)) {
            text.append(one(2) ? " + " : "+").append(part());
        }
        return text.toString();
    }

    private String part() {
        String[] parts = {"monk", "place", "depth", "step", "tired", "hour"};
        return one(3) ? n(0, one(5) ? 999 : 12) : parts[below(parts.length)];
    }

    private String slip(String text) {
        String result = text;
        if (one(6)) {
            result = "  " + result.replace(";", " ; ") + " ";
        }
        int slips = one(3) ? 1 + below(2) : 0;
        for (int i = 0; i < slips; i++) {
            int at = below(result.length() + 1);
            int to = Math.min(result.length(), at + 1 + below(3));
            String put = one(2) ? WORDS[below(WORDS.length)] : one(2) ? " " : String.valueOf((char) below(256));
            switch (below(4)) {
                case 0 -> result = result.substring(0, at) + result.substring(to);
                case 1 -> result = result.substring(0, at) + put + result.substring(at);
                case 2 -> result = result.substring(0, at) + " " + put + " " + result.substring(to);
                default -> result = result.substring(0, at);
            }
        }
        return result.length() > 400 ? result.substring(0, 400) : result;
    }
}

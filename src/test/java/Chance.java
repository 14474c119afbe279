import java.util.Random;

/** Sources, queries and words by chance; the same seed gives the same ones each time. */
final class Chance {
    private static final String[] NAMES =
            {"a", "b", "home", "topic", "abcdef", "c", "d", "e", "f", "g", "h"};
    private static final String[] WORDS =
            {"the", "The", "end", "of", "a", "x", "file", "help", "extraordinarily",
             "extraordinaryx", "red", "redder", "zz", "Q"};
    private static final String[] SIGNS = {".", ", ", "1", "22", "-", "#", "!", "(", "~", "aaaa"};
    private static final String[] WRONG = {"[", "]", "*", "[A]", "[nowhere]", "[no]", "[a", "a]"};

    private final Random random;

    Chance(long seed) {
        random = new Random(seed);
    }

    int below(int bound) {
        return random.nextInt(bound);
    }

    private String one(String[] texts) {
        return texts[below(texts.length)];
    }

    boolean oneIn(int many) {
        return below(many) == 0;
    }

    String source() {
        StringBuilder text = new StringBuilder();
        boolean isCareless = oneIn(2);
        int topics = oneIn(8) ? 11 : 1 + below(10);
        if (oneIn(40)) {
            return Use.repeat(oneIn(2) ? "\n" : " ", below(5));
        }
        if (oneIn(8)) {
            text.append(oneIn(4) ? "!x\n" : oneIn(4) ? "x\n" : "  \n");
        }
        int length = 20 + below(660);
        for (int topic = 0; topic < topics && text.length() < length; topic++) {
            text.append(isCareless && oneIn(9) ? "#" + one(WORDS) : "#" + NAMES[topic]);
            text.append(isCareless && oneIn(40) ? " \n" : "\n");
            int pieces = below(topics > 9 ? 6 : oneIn(5) ? 90 : 30);
            for (int k = 0; k < pieces; k++) {
                piece(text, isCareless, Math.min(topics, 10));
            }
            text.append("\n");
        }
        String all = text.substring(0, Math.min(700, text.length()));
        return all.length() < 700 ? all : all.substring(0, all.lastIndexOf('\n') + 1);
    }

    private void piece(StringBuilder text, boolean isCareless, int topics) {
        int kind = below(isCareless ? 31 : 30);
        if (kind < 12) {
            text.append(one(WORDS)).append(oneIn(6) ? "" : " ");
        } else if (kind < 17) {
            text.append(one(SIGNS));
        } else if (kind < 19) {
            text.append("*").append(one(WORDS)).append(oneIn(5) ? " *" : "*");
        } else if (kind < 21) {
            text.append("[").append(NAMES[below(topics)]).append("]");
        } else if (kind < 24) {
            text.append(Use.repeat(" ", 1 + below(3)));
        } else if (kind < 26) {
            text.append("\n ");
        } else if (kind < 28) {
            text.append(Use.repeat("\n", 2)).append(Use.repeat(" ", 1 + below(2)));
        } else if (kind < 30) {
            text.append("\n!").append(keyword()).append("\n ");
        } else if (oneIn(3)) {
            text.append(one(WRONG));
        } else if (oneIn(3)) {
            text.append("\n!").append(one(WORDS)).append("\n");
        }
    }

    String keyword() {
        StringBuilder word = new StringBuilder();
        int length = 1 + below(oneIn(3) ? 8 : 2);
        for (int k = 0; k < length; k++) {
            word.append((char) ('a' + below(4)));
        }
        return word.toString();
    }

    String query() {
        StringBuilder text = new StringBuilder();
        String[] marks = {"&", "|", "!", "(", ")", " ", " & ", " | ", "(", "1"};
        int parts = below(9);
        for (int k = 0; k < parts; k++) {
            text.append(oneIn(2) ? one(WORDS) : one(marks));
        }
        return text.substring(0, Math.min(40, text.length()));
    }

    /** A query that is right. */
    String rightQuery(int depth) {
        int kind = below(depth == 0 ? 1 : 5);
        switch (kind) {
            case 0:
                return one(WORDS);
            case 1:
                return "!" + (oneIn(2) ? one(WORDS) : "(" + rightQuery(depth - 1) + ")");
            case 2:
                return rightQuery(depth - 1) + "&" + rightQuery(depth - 1);
            case 3:
                return rightQuery(depth - 1) + " | " + rightQuery(depth - 1);
            default:
                return "(" + rightQuery(depth - 1) + ")";
        }
    }
}

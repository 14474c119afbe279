import java.util.ArrayDeque;
import java.util.Deque;
import java.util.Random;

/** Promises 4 to 18 on sources, spoilt images and queries made by chance, against the model. */
public final class RandomTest {
    private static final int SOURCES = 3000;
    private static final String[] NAMES =
            {"a", "b", "home", "topic", "abcdef", "c", "d", "e", "f", "g", "h"};
    private static final String[] WORDS =
            {"the", "The", "end", "of", "a", "x", "file", "help", "extraordinarily",
             "extraordinaryx", "red", "redder", "zz", "Q"};
    private static final String[] SIGNS = {".", ", ", "1", "22", "-", "#", "!", "(", "~", "aaaa"};
    private static final String[] WRONG = {"[", "]", "*", "[A]", "[nowhere]", "[no]", "[a", "a]"};

    private static final Check CHECK = new Check();
    /** The same row of chances each time. */
    private static final Random CHANCE = new Random(20261115);

    public static void main(String[] args) {
        int right = 0;
        int[] kinds = new int[11];
        int[] opened = new int[2];
        for (int k = 0; k < SOURCES; k++) {
            String source = source();
            Model model = Model.of(source);
            kinds[model.kind]++;
            compiled(source, model);
            if (model.kind == 0) {
                right++;
                shown(source, model);
                found(source, model);
                visits(source, model);
                for (int j = 0; j < 4; j++) {
                    opened[spoilt(source, model) ? 1 : 0]++;
                }
            }
        }
        CHECK.yes("sources without a fault", right > SOURCES / 5);
        for (int kind = 0; kind <= 10; kind++) {
            CHECK.yes("sources with fault " + kind, kinds[kind] > 5);
        }
        CHECK.yes("spoilt images that are sound", opened[1] > 50);
        CHECK.yes("spoilt images that are not", opened[0] > 50);
        CHECK.finish("RandomTest");
    }

    private static String one(String[] texts) {
        return texts[CHANCE.nextInt(texts.length)];
    }

    private static boolean oneIn(int many) {
        return CHANCE.nextInt(many) == 0;
    }

    // ---- sources

    private static String source() {
        StringBuilder text = new StringBuilder();
        boolean isCareless = oneIn(2);
        int topics = oneIn(8) ? 11 : 1 + CHANCE.nextInt(10);
        if (oneIn(40)) {
            return Use.repeat(oneIn(2) ? "\n" : " ", CHANCE.nextInt(5));
        }
        if (oneIn(8)) {
            text.append(oneIn(4) ? "!x\n" : oneIn(4) ? "x\n" : "  \n");
        }
        int length = 20 + CHANCE.nextInt(660);
        for (int topic = 0; topic < topics && text.length() < length; topic++) {
            text.append(isCareless && oneIn(9) ? "#" + one(WORDS) : "#" + NAMES[topic]);
            text.append(isCareless && oneIn(40) ? " \n" : "\n");
            int pieces = CHANCE.nextInt(topics > 9 ? 6 : oneIn(5) ? 90 : 30);
            for (int k = 0; k < pieces; k++) {
                piece(text, isCareless, Math.min(topics, 10));
            }
            text.append("\n");
        }
        String all = text.substring(0, Math.min(700, text.length()));
        return all.length() < 700 ? all : all.substring(0, all.lastIndexOf('\n') + 1);
    }

    private static void piece(StringBuilder text, boolean isCareless, int topics) {
        int kind = CHANCE.nextInt(isCareless ? 31 : 30);
        if (kind < 12) {
            text.append(one(WORDS)).append(oneIn(6) ? "" : " ");
        } else if (kind < 17) {
            text.append(one(SIGNS));
        } else if (kind < 19) {
            text.append("*").append(one(WORDS)).append(oneIn(5) ? " *" : "*");
        } else if (kind < 21) {
            text.append("[").append(NAMES[CHANCE.nextInt(topics)]).append("]");
        } else if (kind < 24) {
            text.append(Use.repeat(" ", 1 + CHANCE.nextInt(3)));
        } else if (kind < 26) {
            text.append("\n ");
        } else if (kind < 28) {
            text.append(Use.repeat("\n", 2)).append(Use.repeat(" ", 1 + CHANCE.nextInt(2)));
        } else if (kind < 30) {
            text.append("\n!").append(keyword()).append("\n ");
        } else if (oneIn(3)) {
            text.append(one(WRONG));
        } else if (oneIn(3)) {
            text.append("\n!").append(one(WORDS)).append("\n");
        }
    }

    private static String keyword() {
        StringBuilder word = new StringBuilder();
        int length = 1 + CHANCE.nextInt(oneIn(3) ? 8 : 2);
        for (int k = 0; k < length; k++) {
            word.append((char) ('a' + CHANCE.nextInt(4)));
        }
        return word.toString();
    }

    // ---- comparing

    private static String told(String source) {
        return source.replace("\n", "/");
    }

    private static void compiled(String source, Model model) {
        HelpFile file = Use.withSource(source);
        CHECK.same("compile() of " + told(source), file.compile(), model.kind);
        CHECK.same("line() of " + told(source), file.line(), model.line);
        if (model.kind != 0) {
            CHECK.same("no image of " + told(source), file.at(-1), 0);
            return;
        }
        int[] image = Use.image(source);
        CHECK.same("image's length of " + told(source), image.length, model.image.length);
        for (int k = 0; k < image.length && k < model.image.length; k++) {
            CHECK.same("byte " + k + " of " + told(source), image[k], model.image[k]);
        }
        CHECK.yes("open() of " + told(source), file.open());
    }

    private static void shown(String source, Model model) {
        int topic = CHANCE.nextInt(model.names.size());
        int width = 4 + CHANCE.nextInt(oneIn(2) ? 37 : 8);
        HelpFile file = Use.opened(source);
        file.jump(topic);
        String due = model.shown(topic, width);
        int lines = file.show(width);
        String[] each = due.split("/", -1);
        CHECK.same("lines in " + width + " of " + told(source), lines, each.length - 1);
        int reads = 0;
        for (int line = 0; line < lines && line < each.length; line++) {
            reads += width;
            if (reads > 300) {
                reads = width;
                file = Use.opened(source);
                file.jump(topic);
                file.show(width);
            }
            CHECK.same("line " + line + " in " + width + " of " + told(source),
                    Use.shownLine(file, line, width), each[line]);
        }
    }

    private static String query() {
        StringBuilder text = new StringBuilder();
        String[] marks = {"&", "|", "!", "(", ")", " ", " & ", " | ", "(", "1"};
        int parts = CHANCE.nextInt(9);
        for (int k = 0; k < parts; k++) {
            text.append(oneIn(2) ? one(WORDS) : one(marks));
        }
        return text.substring(0, Math.min(40, text.length()));
    }

    /** A query that is right. */
    private static String rightQuery(int depth) {
        int kind = CHANCE.nextInt(depth == 0 ? 1 : 5);
        switch (kind) {
            case 0:
                return one(WORDS);
            case 1:
                return "!" + (oneIn(2) ? one(WORDS) : "(" + rightQuery(depth - 1) + ")");
            case 2:
                return rightQuery(depth - 1) + "&" + rightQuery(depth - 1);
            case 3:
                return rightQuery(depth - 1) + " | " + rightQuery(depth - 1);
            default:
                return "(" + rightQuery(depth - 1) + ")";
        }
    }

    private static void found(String source, Model model) {
        HelpFile file = Use.opened(source);
        for (int k = 0; k < 3; k++) {
            String query = oneIn(2) ? query() : rightQuery(3);
            query = query.substring(0, Math.min(40, query.length()));
            CHECK.same("search() of " + query + " in " + told(source),
                    Use.search(file, query), model.search(query));
            String word = keyword();
            CHECK.same("keyword() of " + word + " in " + told(source),
                    Use.keyword(file, word), model.keywords.getOrDefault(word, 0));
            CHECK.same("visited() of " + word + " in " + told(source),
                    file.visited(), model.visited(word));
        }
    }

    private static void visits(String source, Model model) {
        HelpFile file = Use.opened(source);
        Deque<Integer> back = new ArrayDeque<>();
        Deque<Integer> forward = new ArrayDeque<>();
        int topic = 0;
        for (int k = 0; k < 60; k++) {
            int kind = CHANCE.nextInt(4);
            Deque<Integer> from = kind == 2 ? back : forward;
            if (kind < 2) {
                int next = CHANCE.nextInt(model.names.size());
                file.jump(next);
                back.addLast(topic);
                if (back.size() > 16) {
                    back.removeFirst();
                }
                forward.clear();
                topic = next;
            } else if (!from.isEmpty()) {
                (kind == 2 ? forward : back).addLast(topic);
                topic = from.removeLast();
                CHECK.same("go() in " + told(source), file.go(kind == 3), topic);
            }
            CHECK.same("topic in " + told(source), file.about(0), topic);
            CHECK.same("back in " + told(source), file.about(3), back.size());
            CHECK.same("forward in " + told(source), file.about(4), forward.size());
        }
        CHECK.same("body of " + told(source), file.about(5), model.bodies.get(topic).length());
    }

    private static boolean spoilt(String source, Model model) {
        HelpFile file = Use.compiled(source);
        int[] image = model.image.clone();
        int spoils = 1 + CHANCE.nextInt(2);
        for (int k = 0; k < spoils; k++) {
            int place = CHANCE.nextInt(oneIn(2) ? 2 + 10 * model.names.size() : image.length);
            int b = oneIn(2) ? image[place] + (oneIn(2) ? 1 : 255)
                    : oneIn(2) ? CHANCE.nextInt(256) : 'a' + CHANCE.nextInt(26);
            Use.spoilAndMend(file, place, b);
            image[place] = b & 255;
        }
        int sum = 0;
        for (int k = 0; k < image.length - 2; k++) {
            sum += image[k];
        }
        image[image.length - 2] = sum % 256;
        image[image.length - 1] = sum / 256 % 256;
        file.spoil(image.length - 2, sum);
        file.spoil(image.length - 1, sum >> 8);
        boolean due = Model.isSound(image);
        CHECK.same("open() of a spoilt image of " + told(source), file.open() ? 1 : 0, due ? 1 : 0);
        return due;
    }
}

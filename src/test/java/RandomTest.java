import java.util.ArrayDeque;
import java.util.Deque;
import java.util.List;

/** Promises 4 to 18 on sources, spoilt images and queries made by chance, against the model. */
public final class RandomTest {
    private static final int SOURCES = 3000;
    private static final Check CHECK = new Check();
    private static final Chance CHANCE = new Chance(20261115);

    public static void main(String[] args) {
        int right = 0;
        int[] kinds = new int[11];
        int[] opened = new int[2];
        for (int k = 0; k < SOURCES; k++) {
            String source = CHANCE.source();
            Model model = Model.of(source);
            kinds[model.kind]++;
            compiled(source, model);
            if (model.kind == 0) {
                right++;
                shown(source, model);
                found(source, model);
                visits(source, model);
                for (int j = 0; j < 4; j++) {
                    opened[spoilt(source, model) ? 1 : 0]++;
                }
            }
        }
        CHECK.yes("sources without a fault", right > SOURCES / 5);
        for (int kind = 0; kind <= 10; kind++) {
            CHECK.yes("sources with fault " + kind, kinds[kind] > 5);
        }
        CHECK.yes("spoilt images that are sound", opened[1] > 50);
        CHECK.yes("spoilt images that are not", opened[0] > 50);
        CHECK.finish("RandomTest");
    }

    private static String told(String source) {
        return source.replace("\n", "/");
    }

    private static void compiled(String source, Model model) {
        HelpFile file = Use.withSource(source);
        CHECK.same("compile() of " + told(source), file.compile(), model.kind);
        CHECK.same("line() of " + told(source), file.line(), model.line);
        if (model.kind != 0) {
            CHECK.same("no image of " + told(source), file.at(-1), 0);
            return;
        }
        int[] image = Use.image(source);
        CHECK.same("image's length of " + told(source), image.length, model.image.length);
        for (int k = 0; k < image.length && k < model.image.length; k++) {
            CHECK.same("byte " + k + " of " + told(source), image[k], model.image[k]);
        }
        CHECK.yes("open() of " + told(source), file.open());
    }

    private static void shown(String source, Model model) {
        int topic = CHANCE.below(model.names.size());
        int width = 4 + CHANCE.below(CHANCE.oneIn(2) ? 37 : 8);
        HelpFile file = Use.opened(source);
        file.jump(topic);
        List<String> due = model.shown(topic, width);
        int lines = file.show(width);
        CHECK.same("lines in " + width + " of " + told(source), lines, due.size());
        int reads = 0;
        for (int line = 0; line < lines && line < due.size(); line++) {
            reads += width;
            if (reads > 300) {
                reads = width;
                file = Use.opened(source);
                file.jump(topic);
                file.show(width);
            }
            CHECK.same("line " + line + " in " + width + " of " + told(source),
                    Use.shownLine(file, line, width), due.get(line));
        }
    }

    private static void found(String source, Model model) {
        HelpFile file = Use.opened(source);
        for (int k = 0; k < 3; k++) {
            String query = CHANCE.oneIn(2) ? CHANCE.query() : CHANCE.rightQuery(3);
            query = query.substring(0, Math.min(40, query.length()));
            CHECK.same("search() of " + query + " in " + told(source),
                    Use.search(file, query), model.search(query));
            String word = CHANCE.keyword();
            CHECK.same("keyword() of " + word + " in " + told(source),
                    Use.keyword(file, word), model.keywords.getOrDefault(word, 0));
            CHECK.same("visited() of " + word + " in " + told(source),
                    file.visited(), model.visited(word));
        }
    }

    private static void visits(String source, Model model) {
        HelpFile file = Use.opened(source);
        Deque<Integer> back = new ArrayDeque<>();
        Deque<Integer> forward = new ArrayDeque<>();
        int topic = 0;
        for (int k = 0; k < 60; k++) {
            int kind = CHANCE.below(4);
            Deque<Integer> from = kind == 2 ? back : forward;
            if (kind < 2) {
                int next = CHANCE.below(model.names.size());
                file.jump(next);
                back.addLast(topic);
                if (back.size() > 16) {
                    back.removeFirst();
                }
                forward.clear();
                topic = next;
            } else if (!from.isEmpty()) {
                (kind == 2 ? forward : back).addLast(topic);
                topic = from.removeLast();
                CHECK.same("go() in " + told(source), file.go(kind == 3), topic);
            }
            CHECK.same("topic in " + told(source), file.about(0), topic);
            CHECK.same("back in " + told(source), file.about(3), back.size());
            CHECK.same("forward in " + told(source), file.about(4), forward.size());
        }
        CHECK.same("body of " + told(source), file.about(5), model.bodies.get(topic).length());
    }

    private static boolean spoilt(String source, Model model) {
        HelpFile file = Use.compiled(source);
        int[] image = model.image.clone();
        int spoils = 1 + CHANCE.below(2);
        for (int k = 0; k < spoils; k++) {
            int place = CHANCE.below(CHANCE.oneIn(2) ? 2 + 10 * model.names.size() : image.length);
            int b = CHANCE.oneIn(2) ? image[place] + (CHANCE.oneIn(2) ? 1 : 255)
                    : CHANCE.oneIn(2) ? CHANCE.below(256) : 'a' + CHANCE.below(26);
            Use.spoilAndMend(file, place, b);
            image[place] = b & 255;
        }
        int sum = 0;
        for (int k = 0; k < image.length - 2; k++) {
            sum += image[k];
        }
        image[image.length - 2] = sum % 256;
        image[image.length - 1] = sum / 256 % 256;
        file.spoil(image.length - 2, sum);
        file.spoil(image.length - 1, sum >> 8);
        boolean due = Model.isSound(image);
        CHECK.same("open() of a spoilt image of " + told(source), file.open() ? 1 : 0, due ? 1 : 0);
        return due;
    }
}

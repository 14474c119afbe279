import java.util.function.IntSupplier;

/**
 * All promises in runs of 512 calls by chance, each on one object: what earlier calls have left,
 * faults and refused calls among them, must not reach later ones but as the document says.
 */
public final class RunTest {
    private static final int RUNS = 400;
    private static final int CALLS = 512;
    private static final Check CHECK = new Check();

    private final Chance chance;
    private final int number;
    private HelpFile file = new HelpFile();
    private ModelFile model = new ModelFile();
    private int calls = 0;

    private RunTest(int number) {
        this.number = number;
        chance = new Chance(number);
    }

    public static void main(String[] args) {
        int opened = 0;
        int runs = args.length == 0 ? RUNS : Integer.parseInt(args[0]);
        for (int k = 0; k < runs; k++) {
            RunTest run = new RunTest(k);
            run.run();
            opened += run.model.open == null ? 0 : 1;
        }
        CHECK.yes("most runs open something", opened > RUNS / 2);
        CHECK.finish("RunTest");
    }

    private void run() {
        while (calls < CALLS) {
            int kind = chance.below(20);
            if (kind == 0 || model.open == null && kind < 8) {
                newSource();
            } else if (kind == 1) {
                changeSource();
            } else if (kind == 2) {
                spoilImage();
            } else if (kind < 9) {
                visit();
            } else if (kind < 12) {
                find();
            } else if (kind < 15) {
                show();
            } else {
                anything();
            }
        }
    }

    /** Asks both, if a call is left; void calls count as answering 0. */
    private void both(String call, IntSupplier asked, IntSupplier due) {
        if (calls < CALLS) {
            calls++;
            CHECK.same("run " + number + ", call " + calls + ", " + call, answer(asked), answer(due));
        }
    }

    private static String answer(IntSupplier call) {
        try {
            return "" + call.getAsInt();
        } catch (RuntimeException e) {
            return e.getClass().getName();
        }
    }

    private void put(int signs) {
        both("put(" + signs + ")", () -> file.put(signs), () -> model.put(signs));
    }

    private void end(int n) {
        both("end(" + n + ")", () -> {
            file.end(n);
            return 0;
        }, () -> model.end(n));
    }

    private void feed(String text) {
        for (int k = 0; k < text.length(); k += 4) {
            int signs = 0;
            for (int j = 0; j < 4 && k + j < text.length(); j++) {
                signs |= text.charAt(k + j) << (8 * j);
            }
            put(signs);
        }
    }

    private void compile() {
        both("compile()", file::compile, model::compile);
        both("line()", file::line, model::line);
    }

    private void open() {
        both("open()", () -> file.open() ? 1 : 0, model::open);
    }

    private void newSource() {
        end(0);
        String source = chance.source();
        feed(source.substring(0, Math.min(source.length(), chance.oneIn(4) ? 700 : 240)));
        compile();
        if (!chance.oneIn(5)) {
            open();
        }
    }

    private void changeSource() {
        if (chance.oneIn(2) && !model.source.isEmpty()) {
            end(chance.below(model.source.length() + 2));
        }
        String[] more = {"\n#new\n", "\n*", "*", "]", "\n!k\n", "x [a]", "\n!", "\n#", "\n\n", "#a", "[b]"};
        feed(more[chance.below(more.length)]);
        compile();
        if (chance.oneIn(2)) {
            open();
        }
    }

    private void spoil(int k, int b) {
        both("spoil(" + k + ", " + b + ")", () -> file.spoil(k, b), () -> model.spoil(k, b));
    }

    private void spoilImage() {
        int length = model.image.length;
        if (length == 0) {
            return;
        }
        int place = chance.below(chance.oneIn(2) ? Math.min(length, 22) : length);
        spoil(place, chance.oneIn(2) ? 'a' + chance.below(26) : chance.below(256));
        if (!chance.oneIn(4)) {
            int[] mended = Use.mended(model.image);
            spoil(length - 2, mended[length - 2]);
            spoil(length - 1, mended[length - 1]);
        }
        open();
        if (chance.oneIn(2)) {
            both("compile()", file::compile, model::compile);
        }
    }

    private void visit() {
        int k = chance.below(12) - 1;
        boolean forward = chance.oneIn(2);
        switch (chance.below(6)) {
            case 0, 1:
                both("jump(" + k + ")", () -> {
                    file.jump(k);
                    return 0;
                }, () -> model.jump(k));
                break;
            case 2, 3:
                both("follow(" + k / 3 + ")", () -> file.follow(k / 3), () -> model.follow(k / 3));
                break;
            default:
                both("go(" + forward + ")", () -> file.go(forward), () -> model.go(forward));
        }
        int what = chance.below(8) - 1;
        both("about(" + what + ")", () -> file.about(what), () -> model.about(what));
    }

    private void find() {
        String query = chance.oneIn(3) ? chance.query() : chance.rightQuery(2);
        if (chance.oneIn(2)) {
            query = chance.keyword();
        }
        for (char sign : query.toCharArray()) {
            both("type(" + sign + ")", () -> file.type(sign), () -> model.type(sign));
        }
        if (chance.oneIn(3)) {
            both("keyword()", file::keyword, model::keyword);
            both("visited()", file::visited, model::visited);
        } else if (!chance.oneIn(6)) {
            both("search()", file::search, model::search);
        }
    }

    private void show() {
        int width = 3 + chance.below(chance.oneIn(3) ? 39 : 8);
        both("show(" + width + ")", () -> file.show(width), () -> model.show(width));
        int reads = chance.below(12);
        for (int k = 0; k < reads; k++) {
            sign(chance.below(k + 2) - 1, chance.below(width + 1) - 1);
        }
    }

    private void sign(int line, int place) {
        both("sign(" + line + ", " + place + ")", () -> file.sign(line, place),
                () -> model.sign(line, place));
    }

    private void anything() {
        int k = chance.below(model.image.length + 4) - 2;
        switch (chance.below(7)) {
            case 0:
                put(chance.oneIn(2) ? chance.below(128) << 8 * chance.below(4) : -chance.below(9));
                break;
            case 1:
                end(chance.oneIn(2) ? -1 : model.source.length() + chance.below(2));
                break;
            case 2:
                int sign = chance.below(140);
                both("type(" + sign + ")", () -> file.type(sign), () -> model.type(sign));
                break;
            case 3:
                sign(chance.below(6) - 1, chance.below(8) - 1);
                break;
            case 4:
                both("visited()", file::visited, model::visited);
                break;
            case 5:
                both("line()", file::line, model::line);
                break;
            default:
                both("at(" + k + ")", () -> file.at(k), () -> model.at(k));
        }
    }
}

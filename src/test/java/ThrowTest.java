import java.util.NoSuchElementException;

/**
 * "A call that throws changes nothing": two objects with the same past, one of which gets a call
 * that throws; afterwards both are asked for all that can be asked, and answer alike.
 */
public final class ThrowTest {
    /** Makes an object and leads it to some state. */
    interface Past {
        HelpFile lived();
    }

    /** A call on an object. */
    interface Call {
        void run(HelpFile file);
    }

    private static final Class<IllegalStateException> STATE = IllegalStateException.class;
    private static final Class<IllegalArgumentException> ARGUMENT = IllegalArgumentException.class;
    private static final Class<IndexOutOfBoundsException> INDEX = IndexOutOfBoundsException.class;
    private static final Class<NoSuchElementException> NO_SUCH = NoSuchElementException.class;
    private static final Class<UnsupportedOperationException> FULL =
            UnsupportedOperationException.class;
    private static final String SOURCE = "#a\n!b\n!c\n!d\n!e\n!f\nred [b]\n#b\nblue [a]\n#c\nred blue";
    private static final Check CHECK = new Check();

    public static void main(String[] args) {
        CHECK.sentence("A call that throws changes nothing.");
        Past[] closed = {HelpFile::new, ThrowTest::compiledAlone, ThrowTest::notOpened};
        for (Past past : closed) {
            closedCalls(past);
            callsOfAnyState(past);
        }
        Past[] open = {ThrowTest::justOpened, ThrowTest::wanderer, ThrowTest::behindAFault};
        for (Past past : open) {
            openCalls(past);
            callsOfAnyState(past);
        }
        emptyStacks();
        fullObjects();
        CHECK.finish("ThrowTest");
    }

    // ---- pasts

    private static HelpFile compiledAlone() {
        HelpFile file = Use.compiled(SOURCE);
        Use.type(file, "re");
        return file;
    }

    private static HelpFile notOpened() {
        HelpFile file = Use.compiled(SOURCE);
        file.spoil(2, 'z');
        file.open();
        file.end(4);
        file.compile();
        Use.type(file, "b|");
        return file;
    }

    private static HelpFile justOpened() {
        return Use.opened(SOURCE);
    }

    /** At topic 1, with topics on both stacks, something shown, a query and a way in the tree. */
    private static HelpFile wanderer() {
        HelpFile file = Use.opened(SOURCE);
        file.jump(2);
        file.show(6);
        file.jump(1);
        file.jump(0);
        file.go(false);
        Use.keyword(file, "c");
        Use.type(file, "red & ");
        return file;
    }

    private static HelpFile behindAFault() {
        HelpFile file = wanderer();
        Use.feed(file, "\n\n]");
        file.compile();
        file.spoil(20, 200);
        return file;
    }

    /** 700 signs of a source, forty of a query, and sixteen topics to go back to. */
    private static HelpFile full() {
        HelpFile file = Use.opened(SOURCE + "\n" + Use.repeat(" ", 699 - SOURCE.length()));
        for (int k = 0; k < 20; k++) {
            file.jump(k % 3);
        }
        Use.type(file, Use.repeat("(", 19) + "blue" + Use.repeat(" ", 17));
        return file;
    }

    // ---- calls that throw

    private static void closedCalls(Past past) {
        unchanged("jump(0)", past, STATE, f -> f.jump(0));
        unchanged("jump(99)", past, STATE, f -> f.jump(99));
        unchanged("follow(0)", past, STATE, f -> f.follow(0));
        unchanged("follow(-1)", past, STATE, f -> f.follow(-1));
        unchanged("go(false)", past, STATE, f -> f.go(false));
        unchanged("go(true)", past, STATE, f -> f.go(true));
        unchanged("about(0)", past, STATE, f -> f.about(0));
        unchanged("about(6)", past, STATE, f -> f.about(6));
        unchanged("keyword()", past, STATE, HelpFile::keyword);
        unchanged("search()", past, STATE, HelpFile::search);
        unchanged("show(9)", past, STATE, f -> f.show(9));
        unchanged("show(3)", past, STATE, f -> f.show(3));
    }

    private static void openCalls(Past past) {
        unchanged("jump(3)", past, NO_SUCH, f -> f.jump(3));
        unchanged("jump(-1)", past, NO_SUCH, f -> f.jump(-1));
        unchanged("follow(1)", past, NO_SUCH, f -> f.follow(1));
        unchanged("follow(-1)", past, NO_SUCH, f -> f.follow(-1));
        unchanged("about(6)", past, ARGUMENT, f -> f.about(6));
        unchanged("about(-1)", past, ARGUMENT, f -> f.about(-1));
        unchanged("show(3)", past, ARGUMENT, f -> f.show(3));
        unchanged("show(41)", past, ARGUMENT, f -> f.show(41));
    }

    private static void callsOfAnyState(Past past) {
        unchanged("put(31)", past, ARGUMENT, f -> f.put(31));
        unchanged("put of three right signs and 127", past, ARGUMENT, f -> f.put(0x7f787878));
        unchanged("put(-1)", past, ARGUMENT, f -> f.put(-1));
        unchanged("end(-1)", past, ARGUMENT, f -> f.end(-1));
        unchanged("end(701)", past, ARGUMENT, f -> f.end(701));
        unchanged("at(-2)", past, INDEX, f -> f.at(-2));
        unchanged("at(3000)", past, INDEX, f -> f.at(3000));
        unchanged("spoil(-1, 1)", past, INDEX, f -> f.spoil(-1, 1));
        unchanged("spoil(3000, 1)", past, INDEX, f -> f.spoil(3000, 1));
        unchanged("spoil behind the end", past, INDEX, f -> f.spoil(f.at(-1), 1));
        unchanged("type(31)", past, ARGUMENT, f -> f.type(31));
        unchanged("type(127)", past, ARGUMENT, f -> f.type(127));
        unchanged("sign(-1, 0)", past, INDEX, f -> f.sign(-1, 0));
        unchanged("sign(0, 40)", past, INDEX, f -> f.sign(0, 40));
        unchanged("sign(300, 0)", past, INDEX, f -> f.sign(300, 0));
    }

    private static void emptyStacks() {
        unchanged("back with an empty stack", ThrowTest::justOpened, NO_SUCH, f -> f.go(false));
        unchanged("forward with an empty stack", ThrowTest::justOpened, NO_SUCH, f -> f.go(true));
        Past first = () -> {
            HelpFile file = wanderer();
            file.go(false);
            file.go(false);
            return file;
        };
        unchanged("back at the first", first, NO_SUCH, f -> f.go(false));
        Past last = () -> {
            HelpFile file = wanderer();
            file.go(true);
            return file;
        };
        unchanged("forward at the last", last, NO_SUCH, f -> f.go(true));
    }

    private static void fullObjects() {
        unchanged("put(32) at 700", ThrowTest::full, FULL, f -> f.put(32));
        unchanged("put of four at 700", ThrowTest::full, FULL, f -> f.put(0x78787878));
        unchanged("type at 40", ThrowTest::full, FULL, f -> f.type(')'));
        unchanged("jump(3), back stack full", ThrowTest::full, NO_SUCH, f -> f.jump(3));
        unchanged("follow(1), back stack full", ThrowTest::full, NO_SUCH, f -> f.follow(1));
        Past almost = () -> {
            HelpFile file = full();
            file.end(697);
            return file;
        };
        unchanged("put of four at 697", almost, FULL, f -> f.put(0x78787878));
        unchanged("end(698) at 697", almost, ARGUMENT, f -> f.end(698));
    }

    // ---- comparing

    private static void unchanged(String what, Past past, Class<? extends RuntimeException> due,
            Call call) {
        HelpFile file = past.lived();
        CHECK.fails(what, due, () -> call.run(file));
        CHECK.fails(what + " again", due, () -> call.run(file));
        CHECK.same("all answers behind " + what, told(file), told(past.lived()));
    }

    /** All that an object tells, and what it does then. */
    private static String told(HelpFile file) {
        StringBuilder text = new StringBuilder();
        add(text, "signs", () -> file.put(0));
        add(text, "line", file::line);
        add(text, "visited", file::visited);
        int length = file.at(-1);
        for (int k = -1; k < length; k += 1 + length / 90) {
            int place = k;
            add(text, "byte " + k, () -> file.at(place));
        }
        for (int k = 0; k <= 5; k++) {
            int what = k;
            add(text, "about " + k, () -> file.about(what));
        }
        for (int k = 0; k < 12; k++) {
            int line = k / 6;
            int place = k % 6;
            add(text, "sign", () -> file.sign(line, place));
        }
        add(text, "type", () -> file.type('d'));
        add(text, "search", file::search);
        add(text, "type", () -> file.type('f'));
        add(text, "keyword", file::keyword);
        add(text, "visited", file::visited);
        for (int k = 0; k < 18; k++) {
            add(text, "back", () -> file.go(false));
        }
        for (int k = 0; k < 18; k++) {
            add(text, "forward", () -> file.go(true));
        }
        add(text, "compile", file::compile);
        add(text, "line", file::line);
        add(text, "bytes", () -> file.at(-1));
        add(text, "open", () -> file.open() ? 1 : 0);
        add(text, "topics", () -> file.about(1));
        return text.toString();
    }

    private static void add(StringBuilder text, String what, java.util.function.IntSupplier call) {
        String answer;
        try {
            answer = "" + call.getAsInt();
        } catch (RuntimeException e) {
            answer = e.getClass().getSimpleName();
        }
        text.append(what).append(' ').append(answer).append(", ");
    }
}

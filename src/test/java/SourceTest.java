/** Promises 1 to 3: a new object, put and end. */
public final class SourceTest {
    private static final Check CHECK = new Check();

    public static void main(String[] args) {
        newObject();
        putOrder();
        putWrong();
        putFull();
        shorten();
        CHECK.finish("SourceTest");
    }

    private static void newObject() {
        HelpFile file = new HelpFile();
        CHECK.same("NONE", HelpFile.NONE, -1);
        CHECK.same("put(0) on a new object", file.put(0), 0);
        CHECK.same("line() on a new object", file.line(), -1);
        CHECK.same("at(-1) on a new object", file.at(-1), 0);
        CHECK.fails("at(0) on a new object", IndexOutOfBoundsException.class, () -> file.at(0));
        CHECK.fails("spoil on a new object", IndexOutOfBoundsException.class, () -> file.spoil(0, 1));
        CHECK.no("open() on a new object", file.open());
        CHECK.same("visited() on a new object", file.visited(), 0);
        CHECK.fails("sign on a new object", IndexOutOfBoundsException.class, () -> file.sign(0, 0));
        CHECK.same("type on a new object", file.type('a'), 1);
        Class<IllegalStateException> closed = IllegalStateException.class;
        CHECK.fails("jump, closed", closed, () -> file.jump(-1));
        CHECK.fails("follow, closed", closed, () -> file.follow(-1));
        CHECK.fails("go, closed", closed, () -> file.go(true));
        CHECK.fails("about, closed", closed, () -> file.about(9));
        CHECK.fails("keyword, closed", closed, file::keyword);
        CHECK.fails("search, closed", closed, file::search);
        CHECK.fails("show, closed", closed, () -> file.show(1));
        CHECK.same("the query stays when a call throws", file.type('b'), 2);
        CHECK.same("compile() of an empty source", file.compile(), 10);
    }

    private static void putOrder() {
        HelpFile file = new HelpFile();
        CHECK.same("put '#a'", file.put('#' | 'a' << 8), 2);
        CHECK.same("put with zeros between", file.put('\n' << 8 | '~' << 24), 4);
        CHECK.same("put ' '", file.put(' ' << 16), 5);
        CHECK.same("put(0)", file.put(0), 5);
        CHECK.same("compile", file.compile(), 0);
        CHECK.same("first letter of the name", file.at(2), 'a');
        CHECK.same("body's length", file.at(8), 2);
        CHECK.same("the body's first sign", file.at(13), '~');
    }

    private static void putWrong() {
        HelpFile file = Use.withSource("#a\n");
        int[] wrong = {1, 9, 11, 13, 31, 127, 128, 255};
        for (int sign : wrong) {
            for (int shift = 0; shift < 32; shift += 8) {
                int signs = 0x20202020 & ~(255 << shift) | sign << shift;
                CHECK.fails("put(" + signs + ")", IllegalArgumentException.class,
                        () -> file.put(signs));
            }
        }
        CHECK.same("nothing was put", file.put(0), 3);
        int[] right = {10, 32, 33, 126};
        for (int k = 0; k < right.length; k++) {
            CHECK.same("put(" + right[k] + ")", file.put(right[k]), 4 + k);
        }
    }

    private static void putFull() {
        HelpFile file = new HelpFile();
        for (int k = 1; k <= 174; k++) {
            CHECK.same("put four", file.put(0x20202020), 4 * k);
        }
        CHECK.same("put two", file.put(0x2020), 698);
        Class<UnsupportedOperationException> full = UnsupportedOperationException.class;
        CHECK.fails("put four above 700", full, () -> file.put(0x20202020));
        CHECK.fails("put three above 700", full, () -> file.put(0x20202000));
        CHECK.fails("put wrong and above 700", IllegalArgumentException.class,
                () -> file.put(0x20202001));
        CHECK.same("nothing was put", file.put(0), 698);
        CHECK.same("put to 700", file.put(0x20002000), 700);
        CHECK.fails("put one above 700", full, () -> file.put(32));
        CHECK.same("put none at 700", file.put(0), 700);
        file.end(699);
        CHECK.same("put to 700 again", file.put(32), 700);
    }

    private static void shorten() {
        HelpFile file = Use.withSource("#a\nx]");
        CHECK.same("compile, whole", file.compile(), 6);
        CHECK.fails("end(-1)", IllegalArgumentException.class, () -> file.end(-1));
        CHECK.fails("end(6)", IllegalArgumentException.class, () -> file.end(6));
        CHECK.same("five signs still", file.put(0), 5);
        file.end(5);
        CHECK.same("end at the end changes nothing", file.compile(), 6);
        file.end(4);
        CHECK.same("end(4)", file.put(0), 4);
        CHECK.same("compile, shorter", file.compile(), 0);
        CHECK.fails("end(5) now", IllegalArgumentException.class, () -> file.end(5));
        file.end(0);
        CHECK.same("end(0)", file.put(0), 0);
        CHECK.same("compile, empty", file.compile(), 10);
        CHECK.same("the image of before stays", file.at(13), 'x');
    }
}

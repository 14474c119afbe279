/** Promises 17 and 18: show and sign. */
public final class ShowTest {
    private static final Check CHECK = new Check();

    public static void main(String[] args) {
        filling();
        cutting();
        paragraphs();
        marks();
        widths();
        mostLines();
        whatWasShownStays();
        CHECK.finish("ShowTest");
    }

    private static void shown(String text, int width, String due) {
        HelpFile file = Use.opened("#ab\n" + text + "\n#abcdef\n");
        CHECK.same(text.replace("\n", "/") + " in " + width, Use.shown(file, width), due);
    }

    private static void filling() {
        shown("ab cd", 5, "ab cd/");
        shown("ab cd", 4, "ab/cd/");
        shown("a b c d e", 4, "a b/c d/e/");
        shown("a b c d e", 5, "a b c/d e/");
        shown("abcd efgh", 4, "abcd/efgh/");
        shown("abc d efgh", 5, "abc d/efgh/");
        shown("one two\nthree   four", 9, "one two/three/four/");
        shown("", 9, "");
    }

    private static void cutting() {
        shown("abcdefghij", 4, "abcd/efgh/ij/");
        shown("abcdefgh", 4, "abcd/efgh/");
        shown("abcdefgh i", 4, "abcd/efgh/i/");
        shown("x abcdefg", 4, "x/abcd/efg/");
        shown("abcdefgh ij", 5, "abcde/fgh/ij/");
        shown("abcdefgh i", 5, "abcde/fgh i/");
        shown("a abcdefg b c", 5, "a/abcde/fg b/c/");
        shown("abcde abcdef", 5, "abcde/abcde/f/");
    }

    private static void paragraphs() {
        shown("a\n\nb", 4, "a//b/");
        shown("a\n!k\nb\n   \nc d", 4, "a//b//c d/");
        shown("**", 4, "/");
        shown("**\n\n**", 4, "///");
        shown("a\n\n**\n\nb", 4, "a////b/");
        shown("** **\n\nx", 4, "//x/");
    }

    private static void marks() {
        shown("*a* b", 4, "a b/");
        shown("a ** b", 4, "a b/");
        shown("a * b * c", 9, "a b c/");
        shown("a*b*c", 4, "abc/");
        shown("[ab]", 4, "[ab]/");
        shown("[abcdef]", 4, "[abc/def]/");
        shown("x[ab]y z", 6, "x[ab]y/z/");
        shown("x [ab], y", 7, "x [ab],/y/");
        shown("*[ab]*[abcdef]", 40, "[ab][abcdef]/");
        shown("* [ab] *", 40, "[ab]/");
    }

    private static void widths() {
        HelpFile file = Use.opened("#a\n" + Use.repeat("x", 100));
        Class<IllegalArgumentException> wrong = IllegalArgumentException.class;
        CHECK.same("show(40)", file.show(40), 3);
        CHECK.same("the last place", file.sign(0, 39), 'x');
        CHECK.same("the last line's last sign", file.sign(2, 19), 'x');
        CHECK.same("behind a line's end", file.sign(2, 20), 0);
        CHECK.same("at the width", file.sign(2, 39), 0);
        CHECK.fails("show(3)", wrong, () -> file.show(3));
        CHECK.fails("show(41)", wrong, () -> file.show(41));
        CHECK.fails("show(-4)", wrong, () -> file.show(-4));
        CHECK.same("what was shown stays when show throws", file.sign(0, 39), 'x');
        Class<IndexOutOfBoundsException> outside = IndexOutOfBoundsException.class;
        CHECK.fails("sign(3, 0)", outside, () -> file.sign(3, 0));
        CHECK.fails("sign(-1, 0)", outside, () -> file.sign(-1, 0));
        CHECK.fails("sign(0, -1)", outside, () -> file.sign(0, -1));
        CHECK.fails("sign(0, 40)", outside, () -> file.sign(0, 40));
        CHECK.fails("sign(MAX, MAX)", outside,
                () -> file.sign(Integer.MAX_VALUE, Integer.MAX_VALUE));
        CHECK.same("show(4)", file.show(4), 25);
        CHECK.fails("sign(0, 4)", outside, () -> file.sign(0, 4));
        CHECK.same("the last line of 25", file.sign(24, 3), 'x');
    }

    private static void mostLines() {
        HelpFile file = Use.opened("#a\n" + Use.repeat("x\n\n", 127));
        CHECK.same("127 paragraphs", file.show(4), 253);
        CHECK.same("the last one", file.sign(252, 0), 'x');
        CHECK.same("the empty one ahead", file.sign(251, 0), 0);
        file = Use.opened("#abcdef\n" + Use.repeat("[abcdef]", 80));
        CHECK.same("80 links", file.show(4), 160);
        CHECK.same("their end", file.sign(159, 3), ']');
        file = manyLinks();
        CHECK.same("127 links", file.show(4), 254);
        CHECK.same("the first sign", file.sign(0, 0), '[');
        CHECK.same("the last sign", file.sign(253, 3), ']');
        CHECK.same("127 links in 40", file.show(40), 26);
        CHECK.same("the last sign in 40", file.sign(25, 15), ']');
        CHECK.same("and none behind it", file.sign(25, 16), 0);
    }

    /** No source of 700 signs has so many links to a long name: a short one is spoilt to it. */
    private static HelpFile manyLinks() {
        HelpFile file = Use.compiled("#a\n" + Use.repeat("[a]", 127));
        String name = "abcdef";
        for (int k = 1; k < name.length(); k++) {
            Use.spoilAndMend(file, 2 + k, name.charAt(k));
        }
        CHECK.yes("open() with the longer name", file.open());
        return file;
    }

    private static void whatWasShownStays() {
        HelpFile file = Use.opened("#a\none\n#b\ntwo\n#c\n");
        CHECK.same("show", file.show(5), 1);
        file.jump(1);
        CHECK.same("shown after a jump", Use.shownLine(file, 0, 5), "one");
        file.go(false);
        file.open();
        file.end(0);
        Use.feed(file, "#q\nother");
        file.compile();
        CHECK.yes("open another", file.open());
        CHECK.same("shown after open", Use.shownLine(file, 0, 5), "one");
        CHECK.same("show the other", Use.shown(file, 5), "other/");
        HelpFile empty = Use.opened("#a\none\n#b");
        empty.show(9);
        empty.jump(1);
        CHECK.same("an empty topic", empty.show(9), 0);
        CHECK.fails("sign(0, 0)", IndexOutOfBoundsException.class, () -> empty.sign(0, 0));
    }
}

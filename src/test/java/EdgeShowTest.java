/** Promises 17 and 18 at their edges: show and sign. */
public final class EdgeShowTest {
    private static final Class<IndexOutOfBoundsException> OUTSIDE = IndexOutOfBoundsException.class;
    private static final Check CHECK = new Check();

    public static void main(String[] args) {
        widths();
        fittingParts();
        oneBlankBetween();
        partsAsWideAsALine();
        partsWiderThanALine();
        newLineForWideParts();
        behindCutParts();
        everyLengthInEveryWidth();
        paragraphs();
        emphasisIsNotShown();
        partsWithoutSigns();
        links();
        nothingToShow();
        mostLines();
        linesAndPlaces();
        behindTheEnd();
        beforeAnyShow();
        shownLast();
        topicItIsAt();
        CHECK.finish("EdgeShowTest");
    }

    private static void shown(String text, int width, String due) {
        HelpFile file = Use.opened("#ab\n" + text + "\n#abcdef");
        CHECK.same(text.replace("\n", "/") + " in " + width, Use.shown(file, width), due);
    }

    private static void widths() {
        CHECK.sentence("IllegalArgumentException if width is not 4 .. 40.");
        HelpFile file = Use.opened("#a\n" + Use.repeat("x", 120));
        for (int k = -2; k <= 60; k++) {
            int width = k;
            if (k >= 4 && k <= 40) {
                CHECK.same("show(" + k + ")", file.show(k), (119 + k) / k);
            } else {
                CHECK.fails("show(" + k + ")", IllegalArgumentException.class, () -> file.show(width));
            }
        }
        int[] outside = {Integer.MIN_VALUE, Integer.MAX_VALUE, 256 + 4, -4, -40};
        for (int width : outside) {
            CHECK.fails("show(" + width + ")", IllegalArgumentException.class, () -> file.show(width));
        }
    }

    private static void fittingParts() {
        CHECK.sentence("are put into a line with one blank between them as long as they fit");
        shown("ab c", 4, "ab c/");
        shown("ab cd", 4, "ab/cd/");
        shown("a b c", 4, "a b/c/");
        shown("a b c", 5, "a b c/");
        shown("abc", 4, "abc/");
        shown("abc d", 4, "abc/d/");
        shown("abc d", 5, "abc d/");
        for (int width = 4; width <= 40; width++) {
            String rest = Use.repeat("b", width - 2);
            shown("a " + rest, width, "a " + rest + "/");
            shown("a " + rest + "b", width, "a/" + rest + "b/");
            shown(rest + " a", width, rest + " a/");
            shown(rest + "b a", width, rest + "b/a/");
        }
    }

    private static void oneBlankBetween() {
        CHECK.sentence("with one blank between them");
        shown("a    b", 9, "a b/");
        shown("a \n\n b", 9, "a//b/");
        shown("a \n b", 9, "a b/");
        shown("   a   ", 9, "a/");
    }

    private static void partsAsWideAsALine() {
        CHECK.sentence("one that is wider than a line alone");
        shown("abcd", 4, "abcd/");
        shown("a bcde", 4, "a/bcde/");
        shown("abcd e", 4, "abcd/e/");
        shown("abcd efgh", 4, "abcd/efgh/");
        for (int width = 4; width <= 40; width++) {
            String full = Use.repeat("f", width);
            shown(full, width, full + "/");
            shown("a " + full + " b", width, "a/" + full + "/b/");
            shown(full + " " + full, width, full + "/" + full + "/");
        }
    }

    private static void partsWiderThanALine() {
        CHECK.sentence("and is cut where lines are full");
        shown("abcde", 4, "abcd/e/");
        shown("abcdefgh", 4, "abcd/efgh/");
        shown("abcdefghi", 4, "abcd/efgh/i/");
        for (int width = 4; width <= 40; width++) {
            String full = Use.repeat("f", width);
            shown(full + "g", width, full + "/g/");
            shown(full + full, width, full + "/" + full + "/");
            shown(full + full + "g", width, full + "/" + full + "/g/");
        }
    }

    private static void newLineForWideParts() {
        CHECK.sentence("one that is wider than a line alone begins a new line (if the line isn't"
                + " empty)");
        shown("a bcdef", 4, "a/bcde/f/");
        shown("bcdef", 4, "bcde/f/");
        shown("x\n\nbcdef", 4, "x//bcde/f/");
        shown("a b cdefg", 6, "a b/cdefg/");
        shown("a b cdefghi", 6, "a b/cdefgh/i/");
        shown("abcdef ghijkl", 4, "abcd/ef/ghij/kl/");
        shown("abcdefgh ijklm", 4, "abcd/efgh/ijkl/m/");
    }

    private static void behindCutParts() {
        CHECK.sentence("are put into a line with one blank between them as long as they fit");
        shown("abcde f", 4, "abcd/e f/");
        shown("abcde fg", 4, "abcd/e fg/");
        shown("abcde fgh", 4, "abcd/e/fgh/");
        shown("abcdefgh i", 4, "abcd/efgh/i/");
        shown("abcdef g h", 4, "abcd/ef g/h/");
    }

    /** Two parts of all lengths: how many lines they take, told by the document's words alone. */
    private static void everyLengthInEveryWidth() {
        CHECK.sentence("Shows the topic in a width: how many lines.");
        for (int first = 1; first <= 13; first++) {
            for (int second = 1; second <= 13; second++) {
                HelpFile file = Use.opened("#a\n" + Use.repeat("p", first) + " " + Use.repeat("q", second));
                for (int width = 4; width <= 28; width++) {
                    int lines = (first + width - 1) / width;
                    int used = first - width * (lines - 1);
                    boolean fits = used + 1 + second <= width;
                    int due = fits ? lines : lines + (second + width - 1) / width;
                    CHECK.same(first + " and " + second + " in " + width, file.show(width), due);
                    int line = fits ? lines - 1 : lines;
                    CHECK.same("where the second part begins", file.sign(line, fits ? used + 1 : 0), 'q');
                }
            }
        }
    }

    private static void paragraphs() {
        CHECK.sentence("paragraph by paragraph, an empty line between two");
        shown("a", 4, "a/");
        shown("a\nb", 4, "a b/");
        shown("a\n\nb", 4, "a//b/");
        shown("a\n\n\n\nb", 4, "a//b/");
        shown("a\n!k\nb", 4, "a//b/");
        shown("a\n\nb\n\nc", 4, "a//b//c/");
        shown("abcd\n\nefgh", 4, "abcd//efgh/");
        shown("abcde\n\nf", 4, "abcd/e//f/");
    }

    private static void emphasisIsNotShown() {
        CHECK.sentence("emphasis isn't shown, a link as its name in [ ]");
        shown("*a*", 4, "a/");
        shown("a*b*c", 4, "abc/");
        shown("*abcd*", 4, "abcd/");
        shown("*abcde*", 4, "abcd/e/");
        shown("a *bc*", 4, "a bc/");
        shown("*a b*", 4, "a b/");
        shown("*a* *b*", 4, "a b/");
        shown("****a****", 4, "a/");
    }

    private static void partsWithoutSigns() {
        CHECK.sentence("(those without a sign that is shown are left out; a paragraph without any is"
                + " an empty line)");
        shown("a ** b", 4, "a b/");
        shown("a * b * c", 5, "a b c/");
        shown("** a", 4, "a/");
        shown("a **", 4, "a/");
        shown("abcd **", 4, "abcd/");
        shown("abcd ** e", 4, "abcd/e/");
        shown("**", 4, "/");
        shown("* *", 4, "/");
        shown("** ** **", 4, "/");
        shown("**\n\na", 4, "//a/");
        shown("a\n\n**", 4, "a///");
        shown("a\n\n**\n\nb", 4, "a////b/");
        shown("**\n\n**", 4, "///");
    }

    private static void links() {
        CHECK.sentence("a link as its name in [ ]");
        shown("[ab]", 4, "[ab]/");
        shown("[ab]c", 4, "[ab]/c/");
        shown("[ab] c", 4, "[ab]/c/");
        shown("[ab] c", 6, "[ab] c/");
        shown("[abcdef]", 8, "[abcdef]/");
        shown("[abcdef]", 7, "[abcdef/]/");
        shown("[abcdef]", 4, "[abc/def]/");
        shown("x[ab]y", 6, "x[ab]y/");
        shown("x[ab]y", 5, "x[ab]/y/");
        shown("[ab][abcdef]", 12, "[ab][abcdef]/");
        shown("*[ab]*", 4, "[ab]/");
        HelpFile one = Use.opened("#a\n[a]");
        CHECK.same("a name of one letter", Use.shown(one, 4), "[a]/");
        HelpFile ten = Use.opened("#a\n[j][a]\n" + Use.topics(10).substring(3));
        CHECK.same("the tenth and the first", Use.shown(ten, 9), "[j][a]/");
    }

    private static void nothingToShow() {
        CHECK.sentence("Shows the topic in a width: how many lines.");
        for (int width = 4; width <= 40; width++) {
            HelpFile file = Use.opened("#a\n\n  \n!k");
            int wide = width;
            CHECK.same("lines of an empty body", file.show(wide), 0);
            CHECK.fails("sign(0, 0)", OUTSIDE, () -> file.sign(0, 0));
        }
    }

    /** 254 lines are the most: 127 links of two lines each, in one paragraph. */
    private static void mostLines() {
        CHECK.sentence("Shows the topic in a width: how many lines.");
        HelpFile file = Use.opened("#a\n" + Use.repeat("x\n\n", 127));
        CHECK.same("127 paragraphs", file.show(4), 253);
        CHECK.same("the last", file.sign(252, 0), 'x');
        CHECK.same("the one ahead", file.sign(251, 0), 0);
        CHECK.fails("sign(253, 0)", OUTSIDE, () -> file.sign(253, 0));
        HelpFile links = Use.turnedInto(Model.imageOf(java.util.List.of("abcdef"),
                java.util.List.of(Use.repeat("\2\0", 127) + "\n"), new java.util.TreeMap<>()));
        CHECK.yes("open()", links.open());
        CHECK.same("127 links in 4", links.show(4), 254);
        CHECK.same("the first sign", links.sign(0, 0), '[');
        CHECK.same("the last sign", links.sign(253, 3), ']');
        CHECK.fails("sign(254, 0)", OUTSIDE, () -> links.sign(254, 0));
        CHECK.same("127 links in 5", links.show(5), (8 * 127 + 4) / 5);
        CHECK.same("127 links in 40", links.show(40), 26);
        CHECK.same("the last sign", links.sign(25, 15), ']');
        HelpFile signs = Use.opened("#a\n" + Use.repeat("x", 254));
        CHECK.same("254 signs in 4", signs.show(4), 64);
        CHECK.same("the last sign", signs.sign(63, 1), 'x');
        CHECK.same("none behind", signs.sign(63, 2), 0);
    }

    private static void linesAndPlaces() {
        CHECK.sentence("IndexOutOfBoundsException if there is no such line, or place is below 0 or not"
                + " below the width.");
        int[] widths = {4, 5, 39, 40};
        for (int width : widths) {
            HelpFile file = Use.opened("#a\n" + Use.repeat("x", 2 * width) + "\n\ny");
            CHECK.same("lines in " + width, file.show(width), 4);
            for (int line = 0; line < 4; line++) {
                int at = line;
                CHECK.same("place 0", file.sign(line, 0), line < 2 ? 'x' : line == 2 ? 0 : 'y');
                CHECK.same("the last place", file.sign(line, width - 1), line < 2 ? 'x' : 0);
                CHECK.fails("sign(" + line + ", -1)", OUTSIDE, () -> file.sign(at, -1));
                CHECK.fails("sign(" + line + ", " + width + ")", OUTSIDE, () -> file.sign(at, width));
            }
            int[] outside = {-1, 4, 5, Integer.MIN_VALUE, Integer.MAX_VALUE};
            for (int k : outside) {
                CHECK.fails("sign(" + k + ", 0)", OUTSIDE, () -> file.sign(k, 0));
            }
            CHECK.fails("sign(0, MAX)", OUTSIDE, () -> file.sign(0, Integer.MAX_VALUE));
            CHECK.fails("sign(0, MIN)", OUTSIDE, () -> file.sign(0, Integer.MIN_VALUE));
            CHECK.fails("sign(-1, -1)", OUTSIDE, () -> file.sign(-1, -1));
        }
    }

    private static void behindTheEnd() {
        CHECK.sentence("(0 behind a line's end)");
        HelpFile file = Use.opened("#a\nabc d\n\nefgh ijklm");
        CHECK.same("lines", file.show(6), 4);
        String[] lines = {"abc d", "", "efgh", "ijklm"};
        for (int line = 0; line < lines.length; line++) {
            for (int place = 0; place < 6; place++) {
                int due = place < lines[line].length() ? lines[line].charAt(place) : 0;
                CHECK.same("sign(" + line + ", " + place + ")", file.sign(line, place), due);
            }
        }
    }

    private static void beforeAnyShow() {
        CHECK.sentence("IndexOutOfBoundsException if there is no such line");
        HelpFile file = Use.opened("#a\nx");
        CHECK.fails("sign(0, 0) before any show()", OUTSIDE, () -> file.sign(0, 0));
        CHECK.fails("sign(-1, 0) before any show()", OUTSIDE, () -> file.sign(-1, 0));
        CHECK.fails("show(41)", IllegalArgumentException.class, () -> file.show(41));
        CHECK.fails("sign(0, 0) behind a show() that threw", OUTSIDE, () -> file.sign(0, 0));
        file.show(4);
        CHECK.same("sign(0, 0) behind a show()", file.sign(0, 0), 'x');
    }

    private static void shownLast() {
        CHECK.sentence("The sign at a place of what was shown last, wherever the viewer has gone since");
        HelpFile file = Use.opened("#a\none [b]\n#b\ntwo");
        file.show(4);
        file.jump(1);
        CHECK.same("behind jump(1)", Use.shownLine(file, 0, 4), "one");
        file.go(false);
        file.follow(0);
        CHECK.same("behind follow(0)", Use.shownLine(file, 1, 4), "[b]");
        CHECK.fails("show(3)", IllegalArgumentException.class, () -> file.show(3));
        CHECK.same("behind show(3)", Use.shownLine(file, 0, 4), "one");
        file.end(0);
        Use.feed(file, "#c\nother text");
        file.compile();
        CHECK.same("behind compile()", Use.shownLine(file, 0, 4), "one");
        file.open();
        CHECK.same("behind open()", Use.shownLine(file, 0, 4), "one");
        CHECK.same("another show()", file.show(40), 1);
        CHECK.same("what it shows", Use.shownLine(file, 0, 40), "other text");
        CHECK.same("its last place", file.sign(0, 39), 0);
        CHECK.fails("its second line", OUTSIDE, () -> file.sign(1, 0));
        CHECK.same("a narrower show()", file.show(5), 2);
        CHECK.fails("the wider one's places are gone", OUTSIDE, () -> file.sign(0, 5));
    }

    private static void topicItIsAt() {
        CHECK.sentence("Shows the topic in a width: how many lines.");
        HelpFile file = Use.opened("#a\none\n#b\n#c\nthree [a]");
        CHECK.same("at topic 0", Use.shown(file, 9), "one/");
        file.jump(1);
        CHECK.same("at topic 1", Use.shown(file, 9), "");
        file.jump(2);
        CHECK.same("at topic 2", Use.shown(file, 9), "three [a]/");
        file.go(false);
        CHECK.same("back at topic 1", file.show(4), 0);
    }
}

/** Promises 1 to 3 at their edges: a new object, put and end; and what a source is. */
public final class EdgeSourceTest {
    private static final Class<IllegalArgumentException> WRONG = IllegalArgumentException.class;
    private static final Class<UnsupportedOperationException> FULL =
            UnsupportedOperationException.class;
    private static final Check CHECK = new Check();

    public static void main(String[] args) {
        constants();
        emptyAtFirst();
        closedAtFirst();
        objectsAreApart();
        everyByteInEveryPlace();
        wrongAmongRightOnes();
        lowestFirst();
        sevenHundred();
        wrongAndTooMany();
        lengthsOfEnd();
        firstSignsStay();
        theLastCall();
        CHECK.finish("EdgeSourceTest");
    }

    private static HelpFile withSigns(int count) {
        return Use.withSource(Use.repeat(" ", count));
    }

    private static void constants() {
        CHECK.sentence("`NONE = -1`: There is none.");
        CHECK.same("NONE", HelpFile.NONE, -1);
    }

    private static void emptyAtFirst() {
        CHECK.sentence("An empty source and query; no image; nothing is open.");
        CHECK.same("signs", new HelpFile().put(0), 0);
        CHECK.same("the first sign", new HelpFile().put(' '), 1);
        CHECK.same("compile()", new HelpFile().compile(), 10);
        CHECK.same("the query's first sign", new HelpFile().type('x'), 1);
        CHECK.same("at(-1)", new HelpFile().at(-1), 0);
        CHECK.fails("at(0)", IndexOutOfBoundsException.class, () -> new HelpFile().at(0));
        CHECK.fails("spoil(0, 0)", IndexOutOfBoundsException.class,
                () -> new HelpFile().spoil(0, 0));
        CHECK.fails("sign(0, 0)", IndexOutOfBoundsException.class, () -> new HelpFile().sign(0, 0));
        CHECK.no("open()", new HelpFile().open());
        CHECK.same("line()", new HelpFile().line(), HelpFile.NONE);
        CHECK.same("visited()", new HelpFile().visited(), 0);
        new HelpFile().end(0);
        CHECK.fails("end(1)", WRONG, () -> new HelpFile().end(1));
    }

    private static void closedAtFirst() {
        CHECK.sentence("IllegalStateException if nothing is open");
        closed("new", new HelpFile());
        HelpFile compiled = Use.compiled("#a\n[a]");
        closed("compiled alone", compiled);
        compiled.spoil(0, 71);
        CHECK.no("open() of a spoilt image", compiled.open());
        closed("not opened", compiled);
        compiled.spoil(0, 72);
        CHECK.yes("open()", compiled.open());
        CHECK.same("about(0) when open", compiled.about(0), 0);
    }

    private static void closed(String when, HelpFile file) {
        Class<IllegalStateException> state = IllegalStateException.class;
        for (int k = -1; k <= 1; k++) {
            int argument = k;
            CHECK.fails(when + ", jump(" + k + ")", state, () -> file.jump(argument));
            CHECK.fails(when + ", follow(" + k + ")", state, () -> file.follow(argument));
        }
        CHECK.fails(when + ", go(false)", state, () -> file.go(false));
        CHECK.fails(when + ", go(true)", state, () -> file.go(true));
        for (int k = -1; k <= 6; k++) {
            int what = k;
            CHECK.fails(when + ", about(" + k + ")", state, () -> file.about(what));
        }
        CHECK.fails(when + ", keyword()", state, file::keyword);
        CHECK.fails(when + ", search()", state, file::search);
        int[] widths = {3, 4, 40, 41};
        for (int width : widths) {
            CHECK.fails(when + ", show(" + width + ")", state, () -> file.show(width));
        }
    }

    private static void objectsAreApart() {
        CHECK.sentence("An empty source and query; no image; nothing is open.");
        HelpFile used = Use.opened("#a\n!k\nx");
        used.type('k');
        used.keyword();
        used.type('q');
        used.show(9);
        HelpFile other = new HelpFile();
        CHECK.same("signs of another object", other.put(0), 0);
        CHECK.same("query of another object", other.type('x'), 1);
        CHECK.same("image of another object", other.at(-1), 0);
        CHECK.same("visited() of another object", other.visited(), 0);
        CHECK.fails("another object", IllegalStateException.class, () -> other.about(0));
        CHECK.fails("another object", IndexOutOfBoundsException.class, () -> other.sign(0, 0));
    }

    private static void everyByteInEveryPlace() {
        CHECK.sentence("A SOURCE has at most 700 signs: 32 .. 126 and line ends (10).");
        for (int b = 0; b <= 255; b++) {
            HelpFile file = Use.withSource("#a");
            boolean isSign = b == 10 || b >= 32 && b <= 126;
            for (int place = 0; place < 4; place++) {
                int signs = b << (8 * place);
                String what = "byte " + b + " at place " + place;
                file.end(2);
                if (isSign || b == 0) {
                    CHECK.same(what, file.put(signs), b == 0 ? 2 : 3);
                } else {
                    CHECK.fails(what, WRONG, () -> file.put(signs));
                    CHECK.same("signs behind " + what, file.put(0), 2);
                }
            }
        }
    }

    private static void wrongAmongRightOnes() {
        CHECK.sentence("IllegalArgumentException if a byte is none of those");
        int[] wrong = {1, 9, 11, 31, 127, 128, 255};
        for (int b : wrong) {
            HelpFile file = Use.withSource("#a");
            for (int place = 0; place < 4; place++) {
                int signs = 0x7a7a7a7a & ~(255 << (8 * place)) | b << (8 * place);
                CHECK.fails("three right bytes and " + b, WRONG, () -> file.put(signs));
            }
            CHECK.same("none of the right ones is put", file.put(0), 2);
            CHECK.same("compile() of what is there", file.compile(), 0);
            CHECK.same("the name's second letter", file.at(3), 0);
        }
    }

    private static void lowestFirst() {
        CHECK.sentence("Four more signs of the source, the lowest byte first (0 is left out):"
                + " how many there are.");
        for (int mask = 0; mask < 16; mask++) {
            HelpFile file = Use.withSource("#");
            StringBuilder name = new StringBuilder();
            int signs = 0;
            for (int place = 0; place < 4; place++) {
                if ((mask >> place & 1) == 1) {
                    signs |= ('d' - place) << (8 * place);
                    name.append((char) ('d' - place));
                }
            }
            CHECK.same("put of " + name, file.put(signs), 1 + name.length());
            CHECK.same("compile() of #" + name, file.compile(), mask == 0 ? 2 : 0);
            for (int k = 0; mask != 0 && k < 6; k++) {
                int due = k < name.length() ? name.charAt(k) : 0;
                CHECK.same("letter " + k + " of " + name, file.at(2 + k), due);
            }
        }
    }

    private static void sevenHundred() {
        CHECK.sentence("UnsupportedOperationException if there would be more than 700.");
        for (int before = 695; before <= 700; before++) {
            HelpFile file = withSigns(before);
            for (int mask = 0; mask < 16; mask++) {
                int signs = 0;
                for (int place = 0; place < 4; place++) {
                    signs |= (mask >> place & 1) == 1 ? '~' << (8 * place) : 0;
                }
                int after = before + Integer.bitCount(mask);
                int four = signs;
                String what = "put of " + Integer.bitCount(mask) + " behind " + before;
                if (after <= 700) {
                    CHECK.same(what, file.put(four), after);
                    file.end(before);
                } else {
                    CHECK.fails(what, FULL, () -> file.put(four));
                }
                CHECK.same("signs behind " + what, file.put(0), before);
            }
        }
        CHECK.same("700 blanks have no fault but 10", withSigns(700).compile(), 10);
        HelpFile full = Use.withSource("#a\n" + Use.repeat(" ", 696) + "x");
        CHECK.same("compile() with a sign at place 699", full.compile(), 0);
        CHECK.same("that sign is in the body", full.at(13), 'x');
    }

    private static void wrongAndTooMany() {
        CHECK.sentence("IllegalArgumentException if a byte is none of those");
        HelpFile file = withSigns(700);
        CHECK.fails("a wrong byte behind 700", WRONG, () -> file.put(31));
        CHECK.fails("a right and a wrong byte behind 700", WRONG, () -> file.put(0x7f20));
        CHECK.same("signs", file.put(0), 700);
    }

    private static void lengthsOfEnd() {
        CHECK.sentence("IllegalArgumentException if n is below 0 or above how many there are.");
        int[] lengths = {0, 1, 2, 350, 699, 700};
        for (int length : lengths) {
            HelpFile file = withSigns(length);
            int[] outside = {-1, -2, Integer.MIN_VALUE, length + 1, 701, Integer.MAX_VALUE};
            for (int n : outside) {
                CHECK.fails("end(" + n + ") of " + length, WRONG, () -> file.end(n));
                CHECK.same("signs behind end(" + n + ")", file.put(0), length);
            }
            file.end(length);
            CHECK.same("end at the end", file.put(0), length);
            file.end(length / 2);
            CHECK.same("end in the middle", file.put(0), length / 2);
            CHECK.fails("end behind that", WRONG, () -> file.end(length / 2 + 1));
            file.end(0);
            CHECK.same("end(0)", file.put(0), 0);
            file.end(0);
            CHECK.same("end(0) again", file.put(0), 0);
            CHECK.fails("end(1) then", WRONG, () -> file.end(1));
        }
    }

    private static void firstSignsStay() {
        CHECK.sentence("The source has its first n signs.");
        String source = "#abcdef\nx";
        for (int n = 0; n <= source.length(); n++) {
            HelpFile file = Use.withSource(source);
            file.end(n);
            CHECK.same("compile() of " + n, file.compile(), n == 0 ? 10 : n == 1 ? 2 : 0);
            for (int k = 1; n > 1 && k <= 6; k++) {
                CHECK.same("letter " + k + " of " + n, file.at(1 + k), k < n ? source.charAt(k) : 0);
            }
            if (n > 1) {
                CHECK.same("the body of " + n, file.at(8), n == source.length() ? 2 : 0);
            }
        }
        HelpFile file = Use.withSource("#abc");
        file.end(2);
        CHECK.same("put behind end(2)", file.put('z'), 3);
        CHECK.same("compile()", file.compile(), 0);
        CHECK.same("the letter put then", file.at(3), 'z');
        CHECK.same("none behind it", file.at(4), 0);
    }

    private static void theLastCall() {
        CHECK.sentence("An object is used for at most 512 calls after it has been made");
        HelpFile file = Use.withSource("#a\n#b\n" + Use.repeat(" ", 694));
        int calls = 175;
        file.compile();
        file.open();
        calls += 2;
        while (calls < 510) {
            file.jump(calls % 2);
            calls++;
        }
        CHECK.same("call 511", file.about(3), 16);
        CHECK.same("call 512", file.go(false), 0);
        HelpFile refused = withSigns(700);
        for (calls = 175; calls < 511; calls++) {
            CHECK.fails("call " + (calls + 1), FULL, () -> refused.put(32));
        }
        CHECK.same("call 512", refused.put(0), 700);
    }
}

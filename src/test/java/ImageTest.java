/** Promises 4, 6 and 7: the bytes of an image, at and spoil. */
public final class ImageTest {
    private static final Check CHECK = new Check();

    public static void main(String[] args) {
        smallest();
        whole();
        bodies();
        packing();
        longPlainPieces();
        tree();
        index();
        biggest();
        bounds();
        CHECK.finish("ImageTest");
    }

    private static String told(int[] bytes) {
        return Use.told(bytes, 0, bytes.length);
    }

    private static void smallest() {
        CHECK.same("image of #a", told(Use.image("#a")),
                "72 1 97 0 0 0 0 0 0 0 0 0 0 0 0 170 0");
    }

    private static void whole() {
        int[] image = Use.image("#ab\n!k\nHi *ho* [c]\n#c\n!k\n!j\nho");
        String due = "72 2"
                + " 97 98 0 0 0 0 11 0 12 0"
                + " 99 0 0 0 0 0 3 0 4 0"
                + " 10 72 105 32 1 104 111 1 32 2 1 10"
                + " 2 104 111 10"
                + " 1 2 1 106 2 0 1 107 3 0"
                + " 2 0 2 104 105 1 0 2 104 111 2 0 1";
        int sum = 0;
        for (String part : due.split(" ")) {
            sum += Integer.parseInt(part);
        }
        CHECK.same("a whole image", told(image), due + " " + sum % 256 + " " + sum / 256);
    }

    /** The body of the first topic of a source without rows of three like bytes. */
    private static String body(String text) {
        int[] image = Use.image("#a\n" + text);
        int length = image[8];
        return length == 0 ? "" : Use.told(image, 13, 13 + length);
    }

    private static void bodies() {
        CHECK.same("blanks and lines", body("  x \n\n\n   y  z \n u  \n  \n"),
                "120 10 121 32 122 32 117 10");
        CHECK.same("marks", body("*x* [a]*y*"), "1 120 1 32 2 0 1 121 1 10");
        CHECK.same("marks alone", body("**\n!k\n[a]"), "1 1 10 2 0 10");
        CHECK.same("a text that looks like a heading", body(" #b\n !c"), "35 98 32 33 99 10");
        CHECK.same("blanks round marks", body("  * x\n *  y "), "1 32 120 32 1 32 121 10");
        CHECK.same("no body", body("\n  \n!k"), "");
    }

    private static String packed(String text) {
        return Use.packed("#a\n" + text, 0);
    }

    private static void packing() {
        CHECK.same("three like bytes", packed("abcabc"), "2 97 98 99 128 3 0 10");
        CHECK.same("two are too few", packed("ab1ab2"), "6 97 98 49 97 98 50 10");
        CHECK.same("a row that overlaps", packed("aaaaaa"), "0 97 130 1 0 10");
        CHECK.same("the nearest", packed("abc1abc2abc"), "3 97 98 99 49 128 4 0 50 128 4 0 10");
        CHECK.same("the longest, though farther", packed("abcd1abc2abcd"),
                "4 97 98 99 100 49 128 5 0 50 129 9 0 10");
        CHECK.same("63 at most", packed(Use.repeat("a", 70)), "0 97 188 1 131 1 0 10");
        CHECK.same("two left are plain", packed(Use.repeat("a", 66)), "0 97 188 1 2 97 97 10");
        CHECK.same("no look ahead", packed("abc1bcdef2abcdef"),
                "9 97 98 99 49 98 99 100 101 102 50 128 10 128 7 0 10");
    }

    /** Signs so that no row of three stands twice: pairs of a first half with a second half. */
    private static String allDifferent(int length) {
        StringBuilder text = new StringBuilder();
        for (int k = 0; text.length() < length; k++) {
            text.append((char) ('0' + k % 10)).append((char) ('A' + k / 10));
        }
        return text.substring(0, length);
    }

    private static void longPlainPieces() {
        int[] lengths = {126, 127, 128, 129, 253, 254};
        for (int length : lengths) {
            String text = allDifferent(length);
            int[] image = Use.image("#a\n" + text);
            Model model = Model.of("#a\n" + text);
            CHECK.same("plain " + length, told(image), told(model.image));
        }
        int[] image = Use.image("#a\n" + allDifferent(254));
        CHECK.same("body's length", image[8] + 256 * image[9], 255);
        CHECK.same("packed length", image[10] + 256 * image[11], 257);
        CHECK.same("the first piece is full", image[12], 127);
        CHECK.same("the next piece has the rest", image[12 + 129], 126);
        image = Use.image("#a\n" + allDifferent(127));
        CHECK.same("one full piece", image[12], 127);
        CHECK.same("and no more", image[10], 129);
    }

    private static String keywords(int count) {
        StringBuilder text = new StringBuilder("#a\n");
        for (int k = count - 1; k >= 0; k--) {
            text.append('!').append((char) ('a' + k / 26)).append((char) ('a' + k % 26)).append('\n');
        }
        return text.toString();
    }

    private static void tree() {
        int[] five = Use.image("#a\n!e\n!aa\n!d\n!a\n!c");
        CHECK.same("five keywords", Use.told(five, 12, five.length - 4), "3"
                + " 4 1 97 1 0 2 97 97 1 0 1 99 1 0 1 100 1 0"
                + " 1 1 101 1 0"
                + " 2 0 1 97 1 1 101");
        int[] ten = Use.image("#a\n#b\n#c\n#d\n#e\n#f\n#g\n#h\n!k\n#i\n!k\n#j\n!k");
        CHECK.same("topics as bits", Use.told(ten, 102, ten.length - 4), "1 1 1 107 128 3");
        int[] counts = {1, 4, 5, 8, 15, 16, 17, 32, 63, 64, 65, 130, 174};
        int[] nodes = {1, 1, 3, 3, 5, 5, 8, 11, 21, 21, 25, 46, 59};
        for (int k = 0; k < counts.length; k++) {
            String source = keywords(counts[k]);
            int[] image = Use.image(source);
            CHECK.same("nodes of " + counts[k], image[12], nodes[k]);
            CHECK.same("tree of " + counts[k], told(image), told(Model.of(source).image));
        }
    }

    private static void index() {
        int[] image = Use.image("#a\nAbc abc1z*y*[b] abcdefghijklm\n#b\nz abcdefghijklx\n#c\n#d\nZ-");
        int start = 42 + image[10] + image[20] + image[30] + image[40] + 1;
        CHECK.same("the index", Use.told(image, start, image.length - 2), "4 0"
                + " 3 97 98 99 1 0"
                + " 12 97 98 99 100 101 102 103 104 105 106 107 108 2 0 1"
                + " 1 121 1 0"
                + " 1 122 3 0 1 2");
    }

    /** Ten topics full of words of two letters: hardly any source has a longer image. */
    private static void biggest() {
        StringBuilder source = new StringBuilder();
        int word = 0;
        for (char name = 'a'; name <= 'j'; name++) {
            source.append('#').append(name).append('\n');
            for (int k = 0; k < (name == 'j' ? 24 : 22); k++) {
                source.append(k == 0 ? "" : "-");
                source.append((char) ('a' + word / 26)).append((char) ('a' + word % 26));
                word += 3;
            }
            source.append('\n');
        }
        int[] image = Use.image(source.toString());
        CHECK.yes("the biggest is big", image.length > 1850);
        CHECK.same("the biggest", told(image), told(Model.of(source.toString()).image));
        CHECK.yes("open() of the biggest", Use.compiled(source.toString()).open());
    }

    private static void bounds() {
        HelpFile file = Use.compiled("#a");
        CHECK.same("at(-1)", file.at(-1), 17);
        CHECK.same("at(16)", file.at(16), 0);
        Class<IndexOutOfBoundsException> outside = IndexOutOfBoundsException.class;
        CHECK.fails("at(17)", outside, () -> file.at(17));
        CHECK.fails("at(-2)", outside, () -> file.at(-2));
        CHECK.fails("at(MIN)", outside, () -> file.at(Integer.MIN_VALUE));
        CHECK.fails("at(MAX)", outside, () -> file.at(Integer.MAX_VALUE));
        CHECK.fails("spoil(17)", outside, () -> file.spoil(17, 0));
        CHECK.fails("spoil(-1)", outside, () -> file.spoil(-1, 0));
        CHECK.same("spoil tells what was", file.spoil(2, 0x1234), 'a');
        CHECK.same("the lowest eight bits", file.at(2), 0x34);
        CHECK.same("spoil(2, -1)", file.spoil(2, -1), 0x34);
        CHECK.same("as 255", file.at(2), 255);
        CHECK.same("the last byte", file.spoil(16, 7), 0);
        CHECK.same("the image's length stays", file.at(-1), 17);
        CHECK.same("compile again", file.compile(), 0);
        CHECK.same("a new image", file.at(2), 'a');
    }
}

/** Promises 4, 6 and 7 at their edges: the parts of an image, at and spoil. */
public final class EdgeImageTest {
    private static final Class<IndexOutOfBoundsException> OUTSIDE = IndexOutOfBoundsException.class;
    private static final Check CHECK = new Check();

    public static void main(String[] args) {
        header();
        lengths();
        sums();
        sumWrapsAround();
        withoutKeywords();
        fourByFour();
        rowsAbove();
        orderOfKeywords();
        topicsOfKeywords();
        mostKeywords();
        index();
        orderOfWords();
        mostWords();
        places();
        noImage();
        spoiling();
        everyByteSpoilt();
        CHECK.finish("EdgeImageTest");
    }

    private static void header() {
        CHECK.sentence("The IMAGE is bytes: 72; how many topics; of each topic its name in six"
                + " bytes (0 behind it), its body's length, its packed length");
        for (int count = 1; count <= 10; count++) {
            int[] image = Use.image(Use.topics(count));
            CHECK.same("the first byte", image[0], 72);
            CHECK.same("how many topics", image[1], count);
            CHECK.same("the image's length", image.length, 2 + 10 * count + 1 + 2 + 2);
            for (int k = 0; k < count; k++) {
                CHECK.same("topic " + k, Use.told(image, 2 + 10 * k, 12 + 10 * k),
                        ('a' + k) + " 0 0 0 0 0 0 0 0 0");
            }
        }
        String name = "abcdef";
        for (int length = 1; length <= 6; length++) {
            int[] image = Use.image("#" + name.substring(0, length));
            for (int k = 0; k < 6; k++) {
                CHECK.same("letter " + k + " of " + length, image[2 + k],
                        k < length ? name.charAt(k) : 0);
            }
        }
    }

    private static void lengths() {
        CHECK.sentence("its body's length, its packed length (two bytes each, the lower first)");
        CHECK.same("no body", Use.told(Use.image("#a"), 8, 12), "0 0 0 0");
        CHECK.same("a short body", Use.told(Use.image("#a\n12"), 8, 12), "3 0 4 0");
        CHECK.same("253 bytes", Use.told(Use.image("#a\n" + Use.different(252)), 8, 12), "253 0 255 0");
        CHECK.same("254 bytes", Use.told(Use.image("#a\n" + Use.different(253)), 8, 12), "254 0 0 1");
        CHECK.same("255 bytes", Use.told(Use.image("#a\n" + Use.different(254)), 8, 12), "255 0 1 1");
        CHECK.same("255 bytes, well packed",
                Use.told(Use.image("#a\n" + Use.repeat("x", 254)), 8, 12), "255 0 13 0");
        int[] image = Use.image("#a\n#b\n12\n#c\n" + Use.different(254));
        CHECK.same("the second of three", Use.told(image, 18, 22), "3 0 4 0");
        CHECK.same("the third of three", Use.told(image, 28, 32), "255 0 1 1");
        CHECK.same("all packed bodies, one behind the other", Use.told(image, 32, 38),
                "2 49 50 10 127 48");
    }

    private static int sumBefore(int[] image) {
        int sum = 0;
        for (int k = 0; k < image.length - 2; k++) {
            sum += image[k];
        }
        return sum;
    }

    private static void sums() {
        CHECK.sentence("at last two bytes (the lower first), the sum of all bytes before, mod 65536");
        CHECK.same("the sum of the smallest", Use.told(Use.image("#a"), 15, 17), "170 0");
        int[] image = Use.image("#zzzzzz");
        int due = 72 + 1 + 6 * 122;
        CHECK.same("a bigger sum", Use.told(image, 15, 17), due % 256 + " " + due / 256);
    }

    /** The sum of an image as full as this one is adjusted by the signs at the source's end. */
    private static void sumWrapsAround() {
        CHECK.sentence("at last two bytes (the lower first), the sum of all bytes before, mod 65536");
        boolean[] found = new boolean[3];
        for (int tail = 0; tail < 100; tail++) {
            String ends = (char) ('0' + tail % 10) + "" + (char) ('0' + tail / 10);
            String source = "#zzzzzz\n" + plain(254, 'w') + "\n#y\n" + plain(72, 'q') + "\n#x\n" + ends;
            int[] image = Use.image(source);
            int sum = sumBefore(image);
            int last = image.length - 2;
            CHECK.same("sum " + sum, image[last] + 256 * image[last + 1], sum % 65536);
            for (int k = 0; k < found.length; k++) {
                found[k] |= sum == 65535 + k;
            }
        }
        CHECK.yes("the sum 65535 was there", found[0]);
        CHECK.yes("the sum 65536 was there", found[1]);
        CHECK.yes("the sum 65537 was there", found[2]);
    }

    private static String plain(int length, char first) {
        StringBuilder text = new StringBuilder();
        for (int k = 0; text.length() < length; k++) {
            text.append((char) (first + k / 26)).append((char) ('a' + k % 26)).append('~');
        }
        return text.substring(0, length);
    }

    private static void withoutKeywords() {
        CHECK.sentence("Without keywords there are no nodes.");
        CHECK.same("no keywords, no words", Use.behindBodies("#a"), "0 0 0");
        CHECK.same("no keywords, a word", Use.behindBodies("#a\nk"), "0 1 0 1 107 1 0");
        CHECK.same("a keyword", Use.behindBodies("#a\n!k"), "1 1 1 107 1 0 0 0");
    }

    /** Keywords ba, bb .. of topic 0, told in the order of the alphabet turned round. */
    private static String keywords(int count) {
        StringBuilder source = new StringBuilder("#a\n");
        for (int k = count - 1; k >= 0; k--) {
            source.append('!').append(word(k)).append('\n');
        }
        return source.toString();
    }

    private static String word(int k) {
        return (char) ('b' + k / 26) + "" + (char) ('a' + k % 26);
    }

    private static String written(int k) {
        return " 2 " + (int) word(k).charAt(0) + " " + (int) word(k).charAt(1);
    }

    private static void fourByFour() {
        CHECK.sentence("each node: how many ENTRIES (1 .. 4), then the entries.");
        for (int count = 1; count <= 4; count++) {
            StringBuilder due = new StringBuilder("1 " + count);
            for (int k = 0; k < count; k++) {
                due.append(written(k)).append(" 1 0");
            }
            CHECK.same(count + " keywords", Use.behindBodies(keywords(count)), due + " 0 0");
        }
    }

    /** A row of nodes has the numbers from first on and that many keywords below each of them. */
    private static void rowsAbove() {
        CHECK.sentence("Above a row of more than one node there is another one, by four: an entry is"
                + " the number of a node (from 0 in the order of the image) and the length and"
                + " letters of the first keyword below it. The last node is the ROOT.");
        int[] counts = {4, 5, 7, 8, 9, 15, 16, 17, 20, 21, 63, 64, 65, 80, 81, 128, 129, 170};
        int[] nodes = {1, 3, 3, 3, 4, 5, 5, 8, 8, 9, 21, 21, 25, 28, 30, 43, 46, 58};
        for (int k = 0; k < counts.length; k++) {
            StringBuilder due = new StringBuilder("" + nodes[k]);
            int row = leaves(counts[k], due);
            int first = 0;
            for (int span = 4; row > 1; span *= 4) {
                int above = (row + 3) / 4;
                for (int node = 0; node < row; node++) {
                    due.append(node % 4 == 0 ? " " + Math.min(4, row - node) : "");
                    due.append(" ").append(first + node).append(written(node * span));
                }
                first += row;
                row = above;
            }
            CHECK.same(counts[k] + " keywords", Use.behindBodies(keywords(counts[k])), due + " 0 0");
        }
    }

    private static int leaves(int count, StringBuilder out) {
        for (int k = 0; k < count; k++) {
            out.append(k % 4 == 0 ? " " + Math.min(4, count - k) : "");
            out.append(written(k)).append(" 1 0");
        }
        return (count + 3) / 4;
    }

    private static void orderOfKeywords() {
        CHECK.sentence("All keywords in the order of the alphabet (of two that begin alike the"
                + " shorter one first), by four, make the LEAVES");
        CHECK.same("short and long", Use.behindBodies("#a\n!b\n!aaaaaaaa\n!aaaaaaa\n!a"), "1 4"
                + " 1 97 1 0 7 97 97 97 97 97 97 97 1 0 8 97 97 97 97 97 97 97 97 1 0 1 98 1 0 0 0");
        CHECK.same("the last letter counts", Use.behindBodies("#a\n!zzzzzzzz\n!zzzzzzzy"), "1 2"
                + " 8 122 122 122 122 122 122 122 121 1 0 8 122 122 122 122 122 122 122 122 1 0 0 0");
        CHECK.same("the first letter counts most", Use.behindBodies("#a\n!ba\n!az"), "1 2"
                + " 2 97 122 1 0 2 98 97 1 0 0 0");
    }

    private static void topicsOfKeywords() {
        CHECK.sentence("an entry is a length, the letters, and two bytes, the topics that have it,"
                + " a bit each");
        StringBuilder all = new StringBuilder();
        for (int topic = 0; topic < 10; topic++) {
            String names = Use.topics(10);
            String one = names.substring(0, 3 * topic + 3) + "!k\n" + names.substring(3 * topic + 3);
            int bit = 1 << topic;
            CHECK.same("topic " + topic, Use.behindBodies(one),
                    "1 1 1 107 " + bit % 256 + " " + bit / 256 + " 0 0");
            all.append(names, 3 * topic, 3 * topic + 3).append("!k\n");
        }
        CHECK.same("all ten topics", Use.behindBodies(all.toString()), "1 1 1 107 255 3 0 0");
    }

    /** No source has more: 26 keywords of one letter and 155 of two, and just 700 signs. */
    private static void mostKeywords() {
        CHECK.sentence("TREE: how many NODES");
        StringBuilder source = new StringBuilder("#a");
        for (char one = 'a'; one <= 'z'; one++) {
            source.append("\n!").append(one);
        }
        for (int k = 0; k < 155; k++) {
            source.append("\n!").append(word(k));
        }
        CHECK.same("signs", source.length(), 700);
        int[] image = Use.image(source.toString());
        CHECK.same("nodes of 181 keywords", image[12], 46 + 12 + 3 + 1);
        CHECK.same("the whole image", Use.told(image, 0, image.length),
                Use.told(Model.of(source.toString()).image, 0, image.length));
        HelpFile file = Use.opened(source.toString());
        CHECK.same("the last keyword", Use.keyword(file, "z"), 1);
        CHECK.same("its way", file.visited(), 4);
    }

    private static void index() {
        CHECK.sentence("INDEX: two bytes, how many words; of each word, in the order of the alphabet:"
                + " its length, its letters, how many topics have it, the first one's number, and"
                + " for each further one how much more its number is.");
        String ten = Use.topics(10);
        CHECK.same("no words", Use.behindBodies(ten), "0 0 0");
        CHECK.same("in the first", Use.behindBodies("#a\nx\n#b"), "0 1 0 1 120 1 0");
        CHECK.same("in the tenth", Use.behindBodies(ten + "x"), "0 1 0 1 120 1 9");
        CHECK.same("in all ten", Use.behindBodies(ten.replace("\n", "\nx\n")),
                "0 1 0 1 120 10 0 1 1 1 1 1 1 1 1 1");
        CHECK.same("in the first and the tenth",
                Use.behindBodies(ten.replace("#a\n", "#a\nx\n") + "x"), "0 1 0 1 120 2 0 9");
        CHECK.same("in the second, fourth and fifth",
                Use.behindBodies("#a\n#b\nx\n#c\n#d\nx\n#e\nX x"), "0 1 0 1 120 3 1 2 1");
        CHECK.same("twice in one topic", Use.behindBodies("#a\nx x\n\nx"), "0 1 0 1 120 1 0");
    }

    private static void orderOfWords() {
        CHECK.sentence("of each word, in the order of the alphabet");
        CHECK.same("short and long", Use.behindBodies("#a\nb ab aa a"),
                "0 4 0 1 97 1 0 2 97 97 1 0 2 97 98 1 0 1 98 1 0");
        String eleven = Use.repeat(" 122", 11);
        CHECK.same("the twelfth letter counts", Use.behindBodies("#a\nzzzzzzzzzzzz zzzzzzzzzzzy"),
                "0 2 0 12" + eleven + " 121 1 0 12" + eleven + " 122 1 0");
        CHECK.same("capitals and small ones", Use.behindBodies("#a\nB a C"),
                "0 3 0 1 97 1 0 1 98 1 0 1 99 1 0");
    }

    /** No source has more: 26 words of one letter and 213 of two, in 699 signs. */
    private static void mostWords() {
        CHECK.sentence("INDEX: two bytes, how many words");
        StringBuilder text = new StringBuilder();
        for (char one = 'a'; one <= 'z'; one++) {
            text.append(one).append('-');
        }
        for (int k = 0; k < 213; k++) {
            text.append(word(k)).append('-');
        }
        String source = "#a\n" + text.substring(0, 252) + "\n#b\n" + text.substring(253, 504) + "\n#c\n"
                + text.substring(505, text.length() - 1);
        CHECK.same("signs", source.length(), 699);
        int[] image = Use.image(source);
        int start = Use.packedStart(image, 3) + 1;
        CHECK.same("239 words", Use.told(image, start, start + 2), "239 0");
        CHECK.same("the whole image", Use.told(image, 0, image.length),
                Use.told(Model.of(source).image, 0, image.length));
        HelpFile file = Use.opened(source);
        CHECK.same("the first word", Use.search(file, "a"), 1);
        CHECK.same("the last word", Use.search(file, "z"), 1);
        CHECK.same("the last of two letters", Use.search(file, word(212)), 4);
        CHECK.same("one behind it", Use.search(file, word(213)), 0);
    }

    private static void places() {
        CHECK.sentence("Byte k of the image (0 .. 255); how many it has if k is -1."
                + " IndexOutOfBoundsException if there is none such.");
        String[] sources = {"#a", "#abc\n!k\nwords of it", Use.topics(10)};
        for (String source : sources) {
            HelpFile file = Use.compiled(source);
            int length = file.at(-1);
            CHECK.same("at(0)", file.at(0), 72);
            CHECK.same("the last byte", file.at(length - 1), Model.of(source).image[length - 1]);
            int[] outside = {length, length + 1, -2, -3, 3000, Integer.MAX_VALUE, Integer.MIN_VALUE};
            for (int k : outside) {
                CHECK.fails("at(" + k + ")", OUTSIDE, () -> file.at(k));
            }
        }
        HelpFile file = Use.compiled("#a");
        CHECK.same("spoil(2, 255)", file.spoil(2, 255), 'a');
        CHECK.same("the greatest byte", file.at(2), 255);
        CHECK.same("spoil(2, 128)", file.spoil(2, 128), 255);
        CHECK.same("no byte is below 0", file.at(2), 128);
    }

    private static void noImage() {
        CHECK.sentence("IndexOutOfBoundsException if there is none such.");
        HelpFile file = Use.withSource("#a");
        int[] outside = {0, 1, -2};
        for (int k : outside) {
            CHECK.fails("at(" + k + ") before compile()", OUTSIDE, () -> file.at(k));
            CHECK.fails("spoil(" + k + ", 0) before compile()", OUTSIDE, () -> file.spoil(k, 0));
        }
        CHECK.fails("spoil(-1, 0) before compile()", OUTSIDE, () -> file.spoil(-1, 0));
        CHECK.same("at(-1) before compile()", file.at(-1), 0);
    }

    private static void spoiling() {
        CHECK.sentence("Byte k of the image becomes another one (its lowest eight bits): what it was."
                + " IndexOutOfBoundsException if there is none such.");
        HelpFile file = Use.compiled("#a");
        int[] outside = {17, 18, -1, -2, Integer.MAX_VALUE, Integer.MIN_VALUE};
        for (int k : outside) {
            CHECK.fails("spoil(" + k + ", 1)", OUTSIDE, () -> file.spoil(k, 1));
        }
        CHECK.same("spoil(0, 1)", file.spoil(0, 1), 72);
        CHECK.same("spoil(16, 2)", file.spoil(16, 2), 0);
        int[] given = {0, 1, 127, 128, 255, 256, 257, 511, 512, 65535, -1, -128, -255, -256, -257,
            Integer.MAX_VALUE, Integer.MIN_VALUE};
        int before = 'a';
        for (int b : given) {
            CHECK.same("spoil(2, " + b + ")", file.spoil(2, b), before);
            before = Math.floorMod(b, 256);
            CHECK.same("at(2) behind spoil(2, " + b + ")", file.at(2), before);
        }
        CHECK.same("the length stays", file.at(-1), 17);
        CHECK.same("the byte ahead stays", file.at(1), 1);
        CHECK.same("the byte behind stays", file.at(3), 0);
    }

    private static void everyByteSpoilt() {
        CHECK.sentence("Byte k of the image becomes another one (its lowest eight bits): what it was.");
        String source = "#ab\n!k\nx [ab]";
        int[] image = Use.image(source);
        HelpFile file = Use.compiled(source);
        for (int k = 0; k < image.length; k++) {
            CHECK.same("spoil(" + k + ", " + (k + 100) + ")", file.spoil(k, k + 100), image[k]);
        }
        for (int k = 0; k < image.length; k++) {
            CHECK.same("at(" + k + ")", file.at(k), k + 100);
        }
    }
}

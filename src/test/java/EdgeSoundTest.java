import java.util.ArrayList;
import java.util.List;
import java.util.TreeMap;

/**
 * Promise 8 at its edges: open, and which images are sound. Most images here are right in all but
 * one thing, so that this one thing alone makes them unsound.
 */
public final class EdgeSoundTest {
    private static final TreeMap<String, Integer> NO_KEYWORDS = new TreeMap<>();
    private static final Check CHECK = new Check();

    public static void main(String[] args) {
        longSources();
        howManyTopics();
        lettersOfNames();
        namesOfSix();
        namesAgain();
        signsOfBodies();
        endsOfBodies();
        blanksOfBodies();
        emphasisOfBodies();
        linksOfBodies();
        lengthsOfBodies();
        toldLengths();
        piecesOfPlainBytes();
        piecesOfCopies();
        choiceOfCopies();
        lettersOfKeywords();
        topicsOfKeywords();
        nodesOfTheTree();
        howManyKeywords();
        index();
        sums();
        everyValueOfEveryByte();
        CHECK.finish("EdgeSoundTest");
    }

    private static void opens(String what, int[] image, boolean due) {
        CHECK.same("open() with " + what, Use.turnedInto(image).open() ? 1 : 0, due ? 1 : 0);
    }

    private static int[] named(String... names) {
        List<String> bodies = new ArrayList<>();
        for (int k = 0; k < names.length; k++) {
            bodies.add("");
        }
        return Model.imageOf(List.of(names), bodies, NO_KEYWORDS);
    }

    private static void body(String what, String body, boolean due) {
        opens(what, Model.imageOf(List.of("a"), List.of(body), NO_KEYWORDS), due);
    }

    private static void longSources() {
        CHECK.sentence("An image is SOUND if it is that of a source of whatever length");
        StringBuilder source = new StringBuilder();
        for (char name = 'a'; name <= 'j'; name++) {
            source.append('#').append(Use.repeat("" + name, 6)).append('\n');
            source.append(Use.repeat("" + name, 254)).append('\n');
        }
        HelpFile file = Use.turnedInto(Model.of(source.toString()).image);
        CHECK.yes("open() of an image of 2630 signs", file.open());
        CHECK.same("its topics", file.about(1), 10);
        for (int topic = 0; topic < 10; topic++) {
            file.jump(topic);
            CHECK.same("the body of topic " + topic, file.about(5), 255);
        }
        CHECK.same("a word of it", Use.search(file, "jjjjjjjjjjjj"), 512);
        CHECK.same("the lines of topic 9", file.show(40), 7);
        CHECK.same("the last sign", file.sign(6, 13), 'j');
        CHECK.same("none behind it", file.sign(6, 14), 0);
        opens("127 links to a name of six: 1016 signs", Model.imageOf(List.of("abcdef"),
                List.of(Use.repeat("\2\0", 127) + "\n"), NO_KEYWORDS), true);
    }

    private static void howManyTopics() {
        CHECK.sentence("Topics are numbered from 0 in the order of the source, at most ten");
        String[] all = {"a", "b", "c", "d", "e", "f", "g", "h", "i", "j", "k", "l"};
        for (int count = 1; count <= 12; count++) {
            opens(count + " topics", named(java.util.Arrays.copyOf(all, count)), count <= 10);
        }
        int[] image = named("a", "b");
        int[] counts = {0, 1, 3, 11, 128, 255};
        for (int count : counts) {
            image[1] = count;
            opens("two topics told as " + count, Use.mended(image), false);
        }
    }

    private static void lettersOfNames() {
        CHECK.sentence("NAMES are one to six small letters");
        opens("a name of six", named("abcdef"), true);
        opens("no name", named(""), false);
        opens("no name of the second", named("a", ""), false);
        for (int b = 0; b <= 255; b++) {
            boolean isSmall = b >= 'a' && b <= 'z';
            opens("a name's first letter " + b, named((char) b + ""), isSmall);
            opens("a name's first letter of two " + b, named((char) b + "b"), isSmall);
            opens("a name's second letter " + b, named("a" + (char) b), isSmall || b == 0);
            opens("a name's sixth letter " + b, named("abcde" + (char) b), isSmall || b == 0);
            opens("a byte behind a name's end " + b, named("abcd\0" + (char) b), b == 0);
        }
    }

    /** The byte behind a name's six letters is no letter of it, even if it has a letter's number. */
    private static void namesOfSix() {
        CHECK.sentence("of each topic its name in six bytes (0 behind it)");
        for (int length = 'a' - 1; length <= 'z' + 1; length++) {
            HelpFile file = Use.compiled("#abcdef\n" + Use.different(length - 4) + "\n\n[abcdef]");
            CHECK.same("the byte behind the name", file.at(8), length);
            CHECK.yes("open() with a body of " + length, file.open());
            CHECK.same("its link", file.follow(0), 0);
        }
    }

    private static void namesAgain() {
        CHECK.sentence("4 a topic's name again");
        opens("two names", named("a", "b"), true);
        opens("a name again", named("a", "a"), false);
        opens("a name of six again", named("abcdef", "b", "abcdef"), false);
        opens("names that begin alike", named("abcdef", "abcde", "abcd"), true);
    }

    private static void signsOfBodies() {
        CHECK.sentence("A SOURCE has at most 700 signs: 32 .. 126 and line ends (10).");
        for (int b = 0; b <= 255; b++) {
            boolean isMark = b == '*' || b == '[' || b == ']';
            body("1, byte " + b + ", 2", "1" + (char) b + "2\n",
                    b == 10 || b >= 32 && b <= 126 && !isMark);
            body("byte " + b + " alone", (char) b + "\n", b > 32 && b <= 126 && !isMark);
        }
    }

    private static void endsOfBodies() {
        CHECK.sentence("at last 10");
        body("no body", "", true);
        body("a paragraph", "1\n", true);
        body("two paragraphs", "1\n2\n", true);
        body("a paragraph without its end", "12", false);
        body("a second one without its end", "1\n2", false);
        CHECK.sentence("for each paragraph that has a sign other than a blank its signs");
        body("two paragraphs of nothing", "\n\n", false);
        body("one behind another", "1\n\n", false);
        body("one ahead of another", "\n1\n", false);
        body("one between two", "1\n\n2\n", false);
        body("a paragraph of a blank", " \n", false);
    }

    private static void blanksOfBodies() {
        CHECK.sentence("each row of blanks and line ends within it as one blank, none at its"
                + " beginning and end");
        body("a blank within", "1 2\n", true);
        body("two blanks within", "1  2\n", false);
        body("a blank at the beginning", " 1\n", false);
        body("a blank at the end", "1 \n", false);
        body("a blank at a second one's beginning", "1\n 2\n", false);
        body("blanks round marks", "\1 1 \1 \2\0\n", true);
        body("two blanks behind a mark", "\1\1  1\n", false);
        body("a blank behind a link at the end", "\2\0 \n", false);
        body("a blank ahead of a link at the beginning", " \2\0\n", false);
    }

    private static void emphasisOfBodies() {
        CHECK.sentence("7 emphasis that is on at its paragraph's end");
        for (int marks = 0; marks <= 5; marks++) {
            body(marks + " marks", "1" + Use.repeat("\1", marks) + "\n", marks % 2 == 0);
        }
        body("marks in two paragraphs, two each", "\1x\1\n\1y\1\n", true);
        body("marks in two paragraphs, one each", "\1x\ny\1\n", false);
        body("marks alone", "\1\1\n", true);
    }

    private static void linksOfBodies() {
        CHECK.sentence("8 the first link to a name that no topic has");
        for (int topics = 1; topics <= 10; topics++) {
            List<String> names = new ArrayList<>();
            List<String> bodies = new ArrayList<>();
            for (int k = 0; k < topics; k++) {
                names.add("" + (char) ('a' + k));
                bodies.add("");
            }
            for (int target = 0; target <= 12; target++) {
                bodies.set(topics - 1, "\2" + (char) target + "\n");
                opens("link to " + target + " of " + topics,
                        Model.imageOf(names, bodies, NO_KEYWORDS), target < topics);
            }
            bodies.set(topics - 1, "\2" + (char) 255 + "\n");
            opens("link to 255 of " + topics, Model.imageOf(names, bodies, NO_KEYWORDS), false);
        }
        body("a link without a number", "1\2", false);
        body("a link whose number is the paragraph's end", "1\2\n", false);
    }

    private static void lengthsOfBodies() {
        CHECK.sentence("a body has at most 255 bytes");
        body("255 like bytes", Use.repeat("x", 254) + "\n", true);
        body("256 like bytes", Use.repeat("x", 255) + "\n", false);
        body("257 like bytes", Use.repeat("x", 256) + "\n", false);
        body("512 like bytes", Use.repeat("x", 511) + "\n", false);
        body("700 like bytes", Use.repeat("x", 699) + "\n", false);
        body("255 bytes in short paragraphs", "x" + Use.repeat("1\n", 127), true);
        body("256 bytes in short paragraphs", Use.repeat("1\n", 128), false);
        List<String> names = List.of("a", "b");
        opens("255 bytes twice", Model.imageOf(names,
                List.of(Use.repeat("x", 254) + "\n", Use.repeat("y", 254) + "\n"), NO_KEYWORDS), true);
        opens("255 and 256 bytes", Model.imageOf(names,
                List.of(Use.repeat("x", 254) + "\n", Use.repeat("y", 255) + "\n"), NO_KEYWORDS), false);
    }

    /** Lengths that are not those of the body and of its pieces. */
    private static void toldLengths() {
        CHECK.sentence("its body's length, its packed length (two bytes each, the lower first)");
        int[] image = Use.image("#a\n1234\n#b\n5678");
        for (int place = 8; place < 12; place++) {
            for (int b = 0; b <= 255; b++) {
                int[] other = image.clone();
                other[place] = b;
                opens("byte " + place + " as " + b, Use.mended(other), b == image[place]);
            }
        }
    }

    /** An image with one topic without letters, its body packed as told. */
    private static void pieces(String what, int length, String packed, boolean due) {
        String[] parts = packed.split(" ");
        int[] image = new int[12 + parts.length + 5];
        image[0] = 72;
        image[1] = 1;
        image[2] = 'a';
        image[8] = length;
        image[10] = parts.length % 256;
        image[11] = parts.length / 256;
        for (int k = 0; k < parts.length; k++) {
            image[12 + k] = Integer.parseInt(parts[k]);
        }
        opens(what, Use.mended(image), due);
    }

    private static void piecesOfPlainBytes() {
        CHECK.sentence("if there is none, the byte goes as it is, into the piece of such before it,"
                + " if that has fewer than 128 (and no other piece came between)");
        pieces("one piece", 4, "3 49 50 51 10", true);
        pieces("two pieces", 4, "1 49 50 1 51 10", false);
        pieces("a piece of one behind", 4, "2 49 50 51 0 10", false);
        pieces("a piece that is longer than what is there", 4, "4 49 50 51 10", false);
        pieces("a piece that is shorter", 4, "2 49 50 51 10", false);
        StringBuilder bytes = new StringBuilder();
        for (char sign : Use.different(128).toCharArray()) {
            bytes.append(" ").append((int) sign);
        }
        String all = bytes.toString().trim();
        String first = all.substring(0, all.lastIndexOf(' '));
        String last = all.substring(all.lastIndexOf(' ') + 1);
        pieces("128 bytes in one piece", 128, "127 " + first + " 10", true);
        pieces("129 bytes, the first piece full", 129, "127 " + all + " 0 10", true);
        pieces("129 bytes, the first piece not full", 129, "126 " + first + " 1 " + last + " 10",
                false);
    }

    private static void piecesOfCopies() {
        CHECK.sentence("or a byte 128 + n, n 0 .. 60, and a byte d, 1 .. 255: n + 3 bytes, each"
                + " like the one d ahead of it");
        pieces("three bytes", 5, "0 48 128 1 0 10", true);
        pieces("two bytes as they are", 4, "3 48 48 48 10", true);
        pieces("63 bytes", 65, "0 48 188 1 0 10", true);
        pieces("64 bytes in one piece", 66, "0 48 189 1 0 10", false);
        pieces("64 bytes, the last one as it is", 66, "0 48 188 1 1 48 10", true);
        pieces("130 bytes in one piece", 132, "0 48 255 1 0 10", false);
        pieces("d of 0", 5, "0 48 128 0 0 10", false);
        pieces("d ahead of the body", 5, "0 48 128 2 0 10", false);
        pieces("d of 255", 5, "0 48 128 255 0 10", false);
        pieces("a copy at the beginning", 4, "128 1 0 10", false);
        pieces("a copy without its d", 4, "2 48 49 10 128", false);
        pieces("252 ahead", 255, farApart(), true);
    }

    private static String farApart() {
        StringBuilder bytes = new StringBuilder("127 36 38 10");
        String between = Use.different(249);
        for (int k = 0; k < between.length(); k++) {
            bytes.append(k == 125 ? " 123" : "").append(" ").append((int) between.charAt(k));
        }
        return bytes + " 128 252";
    }

    private static void choiceOfCopies() {
        CHECK.sentence("From the first byte on: the longest row of 3 to 63 bytes that stands as well"
                + " beginning at an earlier byte of the body, at most 255 ahead (it may overlap),"
                + " is taken, of several the nearest");
        pieces("ten like bytes", 11, "0 48 134 1 0 10", true);
        pieces("ten as they are", 11, "10 48 48 48 48 48 48 48 48 48 48 10", false);
        pieces("in three copies", 11, "0 48 128 1 128 1 128 1 0 10", false);
        pieces("copied from farther", 11, "1 48 48 133 2 0 10", false);
        pieces("not the longest", 11, "0 48 133 1 1 48 10", false);
        pieces("the nearest of two", 12, "3 49 50 51 61 128 4 0 62 128 4 0 10", true);
        pieces("the farther of two", 12, "3 49 50 51 61 128 4 0 62 128 8 0 10", false);
        pieces("the longer of two", 14, "4 49 50 51 52 61 128 5 0 62 129 9 0 10", true);
        pieces("the shorter of two", 14, "4 49 50 51 52 61 128 5 0 62 128 4 1 52 10", false);
        pieces("later than could be", 9, "4 49 50 51 52 49 128 4 0 10", false);
        pieces("as early as can be", 9, "3 49 50 51 52 129 4 0 10", true);
    }

    private static void keyword(String what, int topics, String word, int having, boolean due) {
        List<String> names = new ArrayList<>();
        List<String> bodies = new ArrayList<>();
        for (int k = 0; k < topics; k++) {
            names.add("" + (char) ('a' + k));
            bodies.add("");
        }
        TreeMap<String, Integer> keywords = new TreeMap<>();
        keywords.put(word, having);
        opens(what, Model.imageOf(names, bodies, keywords), due);
    }

    private static void lettersOfKeywords() {
        CHECK.sentence("one to eight small letters");
        for (int length = 0; length <= 30; length++) {
            keyword("a keyword of " + length, 1, Use.repeat("k", length), 1,
                    length >= 1 && length <= 8);
        }
        for (int b = 0; b <= 255; b++) {
            boolean isSmall = b >= 'a' && b <= 'z';
            keyword("a keyword's letter " + b, 1, (char) b + "", 1, isSmall);
            keyword("a keyword's second letter " + b, 1, "k" + (char) b, 1, isSmall);
            keyword("a keyword's eighth letter " + b, 1, "abcdefg" + (char) b, 1, isSmall);
        }
    }

    private static void topicsOfKeywords() {
        CHECK.sentence("the topics that have it, a bit each");
        for (int topics = 1; topics <= 10; topics++) {
            int all = (1 << topics) - 1;
            keyword("no topic of " + topics, topics, "k", 0, false);
            keyword("the first of " + topics, topics, "k", 1, true);
            keyword("the last of " + topics, topics, "k", 1 << (topics - 1), true);
            keyword("all of " + topics, topics, "k", all, true);
            keyword("one behind " + topics, topics, "k", all + 1, false);
            keyword("the first and one behind " + topics, topics, "k", 1 | all + 1, false);
            keyword("bit 15 of " + topics, topics, "k", 1 | 1 << 15, false);
        }
    }

    private static int[] withKeywords(int count) {
        TreeMap<String, Integer> keywords = new TreeMap<>();
        for (int k = 0; k < count; k++) {
            keywords.put((char) ('b' + k / 26) + "" + (char) ('a' + k % 26), 1);
        }
        return Model.imageOf(List.of("a"), List.of(""), keywords);
    }

    /** Trees as they are, and with one byte that tells of the nodes as another one. */
    private static void nodesOfTheTree() {
        CHECK.sentence("TREE: how many NODES; each node: how many ENTRIES (1 .. 4), then the entries.");
        int[] counts = {1, 4, 5, 8, 16, 17, 20};
        for (int count : counts) {
            int[] image = withKeywords(count);
            opens(count + " keywords", image, true);
            for (int more = -2; more <= 4; more++) {
                int[] other = image.clone();
                other[12] = Math.floorMod(image[12] + more, 256);
                opens(count + " keywords, nodes " + other[12], Use.mended(other), more == 0);
                other = image.clone();
                other[13] = Math.floorMod(image[13] + more, 256);
                opens(count + " keywords, entries " + other[13], Use.mended(other), more == 0);
            }
        }
        changed("keywords in another order", withKeywords(2), 16, 'c', false);
        changed("a keyword again", withKeywords(2), 16, 'b', false);
        changed("another number of a node", withKeywords(5), 41, 1, false);
        changed("another first keyword below", withKeywords(5), 44, 'b', false);
    }

    private static void changed(String what, int[] image, int place, int b, boolean due) {
        int[] other = image.clone();
        other[place] = b;
        opens(what, Use.mended(other), due);
    }

    /** We know of no 512 calls that make such an image: so it is set from inside. */
    private static void howManyKeywords() {
        CHECK.sentence("An image is SOUND if it is that of a source of whatever length with at most"
                + " 250 keywords.");
        int[] counts = {0, 1, 64, 65, 181, 182, 248, 249, 250, 251, 252, 253, 255, 256, 257, 300};
        for (int count : counts) {
            HelpFile file = new HelpFile();
            if (!Inside.setImage(file, withKeywords(count))) {
                System.out.println("not looked at: images of " + count + " keywords");
                continue;
            }
            CHECK.same("open() with " + count + " keywords", file.open() ? 1 : 0, count <= 250 ? 1 : 0);
            if (count == 250) {
                CHECK.same("the first keyword", Use.keyword(file, "ba"), 1);
                CHECK.same("nodes on its way", file.visited(), 4);
                CHECK.same("the last keyword", Use.keyword(file, "kp"), 1);
                CHECK.same("one behind it", Use.keyword(file, "kq"), 0);
                CHECK.same("nodes on its way", file.visited(), 4);
            }
        }
    }

    private static void index() {
        CHECK.sentence("INDEX: two bytes, how many words; of each word, in the order of the alphabet:"
                + " its length, its letters, how many topics have it, the first one's number, and"
                + " for each further one how much more its number is.");
        int[] image = Use.image("#a\nb d\n#c\nb");
        int start = Use.packedStart(image, 2) + 1;
        CHECK.same("the index", Use.told(image, start, image.length - 2), "2 0 1 98 2 0 1 1 100 1 0");
        for (int k = start; k < image.length - 2; k++) {
            for (int b = 0; b <= 255; b++) {
                changed("the index's byte " + (k - start) + " as " + b, image, k, b, b == image[k]);
            }
        }
    }

    private static void sums() {
        CHECK.sentence("at last two bytes (the lower first), the sum of all bytes before, mod 65536");
        int[] image = Use.image("#ab\nx");
        for (int b = 0; b <= 255; b++) {
            int[] other = image.clone();
            other[image.length - 2] = b;
            opens("the sum's lower byte " + b, other, b == image[image.length - 2]);
            other = image.clone();
            other[image.length - 1] = b;
            opens("the sum's upper byte " + b, other, b == image[image.length - 1]);
        }
        int[] other = image.clone();
        other[image.length - 2] = image[image.length - 1];
        other[image.length - 1] = image[image.length - 2];
        opens("the sum's upper byte first", other, false);
    }

    private static void everyValueOfEveryByte() {
        CHECK.sentence("An image is SOUND if it is that of a source of whatever length");
        int[] image = Use.image("#ab\n!k\n!lm\n1 *b* [c]\n\nxxxxx\n#c\n!k\nb");
        int sound = 0;
        for (int k = 0; k < image.length - 2; k++) {
            for (int b = 0; b <= 255; b++) {
                int[] other = image.clone();
                other[k] = b;
                other = Use.mended(other);
                boolean due = Model.isSound(other);
                sound += due ? 1 : 0;
                HelpFile file = Use.compiled("#ab\n!k\n!lm\n1 *b* [c]\n\nxxxxx\n#c\n!k\nb");
                file.spoil(k, b);
                file.spoil(image.length - 2, other[image.length - 2]);
                file.spoil(image.length - 1, other[image.length - 1]);
                CHECK.same("byte " + k + " as " + b, file.open() ? 1 : 0, due ? 1 : 0);
            }
        }
        CHECK.yes("others are sound, too", sound > image.length);
    }
}

/** Promise 8: open, and which images are sound. */
public final class SoundTest {
    private static final Check CHECK = new Check();

    public static void main(String[] args) {
        everyByteCounts();
        otherSources();
        badNames();
        badBodies();
        badPacking();
        badTree();
        longerSource();
        whatIsOpenStays();
        CHECK.finish("SoundTest");
    }

    private static int[] copy(HelpFile file) {
        int[] image = new int[file.at(-1)];
        for (int k = 0; k < image.length; k++) {
            image[k] = file.at(k);
        }
        return image;
    }

    private static void everyByteCounts() {
        String source = "#ab\n!key\n!lock\nHi *ho* [c] 123\n#c\n!key\nho ho ho 77";
        int length = Use.image(source).length;
        for (int k = 0; k < length; k++) {
            HelpFile file = Use.compiled(source);
            int before = file.spoil(k, file.at(k) + 1);
            CHECK.no("open() with another byte " + k, file.open());
            CHECK.fails("still nothing open", IllegalStateException.class, () -> file.about(0));
            file.spoil(k, before);
            CHECK.yes("open() with byte " + k + " as it was", file.open());
        }
    }

    /** Bytes that may be others, as another source would give them, if only the sum is right. */
    private static void otherSources() {
        mended("#ab\n#c", 3, 'x', true);
        mended("#ab\n#c", 4, 'x', true);
        mended("#ab\n#c", 12, 'd', true);
        mended("#a\n1 2", 15, '3', true);
        mended("#a\n1 2", 15, '#', true);
        mended("#a\n[a]\n#b", 24, 1, true);
        mended("#a\n!k\n#b", 26, 2, true);
        mended("#a\n!k\n#b", 26, 3, true);
        mended("#a\n!k", 15, 'j', true);
        mended("#a\n!k", 15, 'z', true);
        mended("#a\nabc", 13, 'b', false);
    }

    private static void badNames() {
        mended("#ab\n#c", 2, 0, false);
        mended("#ab\n#c", 2, 'A', false);
        mended("#ab\n#c", 3, '1', false);
        mended("#ab\n#c", 7, 'x', false);
        mended("#ab\n#c", 5, 'x', false);
        mended("#a\n#c", 12, 'a', false);
        mended("#a\n#c", 1, 1, false);
        mended("#a\n#c", 1, 3, false);
        mended("#a\n#c", 1, 0, false);
        mended("#a\n#c", 1, 11, false);
        mended("#a\n#c", 1, 255, false);
        mended("#a\n#c", 0, 73, false);
    }

    private static void badBodies() {
        int[] wrong = {0, 1, 2, 13, '*', '[', ']', 127, 128, 255};
        for (int sign : wrong) {
            mended("#a\n123", 14, sign, false);
        }
        mended("#a\n123", 13, ' ', false);
        mended("#a\n123", 15, ' ', false);
        mended("#a\n123", 14, ' ', true);
        mended("#a\n123", 16, '4', false);
        mended("#a\n1 2 3", 15, ' ', false);
        mended("#a\n1 2 3", 14, '\n', true);
        mended("#a\n123", 14, '\n', true);
        mended("#a\n1 2 3", 15, '\n', false);
        mended("#a\n1 2\n\n3", 14, '\n', true);
        mended("#a\n1\n\n2", 14, ' ', true);
        mended("#a\n*1*", 15, '2', false);
        mended("#a\n*1*", 14, 1, false);
        mended("#a\n*1*2**", 15, '2', false);
        mended("#a\n[a]", 14, 1, false);
        mended("#a\n[a]", 14, 10, false);
        mended("#a\n[a] 1", 14, '1', false);
        mended("#a\n[a] 1", 13, 1, false);
    }

    private static void badPacking() {
        mended("#a\n0000000000", 15, 2, false);
        mended("#a\n0000000000", 15, 0, false);
        mended("#a\n0000000000", 14, 255, false);
        mended("#a\n0000000000", 14, 133, false);
        mended("#a\n0000000000", 8, 12, false);
        mended("#a\n0000000000", 9, 1, false);
        mended("#a\n0000000000", 10, 7, false);
        mended("#a\n0000000000", 11, 255, false);
        mended("#a\n0123", 16, '0', true);
        spoiled("#a\n012012", "the row as it is, not as a copy", false, 15, '0', 16, '1');
        spoiled("#a\n012345", "a row that is like an earlier one", false, 16, '0', 17, '1', 18, '2');
    }

    private static void badTree() {
        mended("#a\n!k", 16, 0, false);
        mended("#a\n!k", 16, 2, false);
        mended("#a\n!k", 17, 1, false);
        mended("#a\n!k", 15, 'K', false);
        mended("#a\n!k", 15, 0, false);
        mended("#a\n!k", 14, 0, false);
        mended("#a\n!k", 14, 2, false);
        mended("#a\n!k", 13, 0, false);
        mended("#a\n!k", 13, 5, false);
        mended("#a\n!k", 12, 0, false);
        mended("#a\n!k", 12, 2, false);
        mended("#a\n!k", 12, 255, false);
        mended("#a\n!j\n!k", 15, 'k', false);
        mended("#a\n!j\n!k", 15, 'l', false);
        mended("#a\n!j\n!k", 19, 'i', false);
        mended("#a\n!abcdefgh", 14, 9, false);
        spoiled("#a\n!a\n!b\n!c\n!d\n!e", "the same keyword below and above", true, 32, 'f', 41, 'f');
        spoiled("#a\n!a\n!b\n!c\n!d\n!e", "other keywords below and above", false, 32, 'f');
        spoiled("#a\n!a\n!b\n!c\n!d\n!e", "another number of a node", false, 36, 1);
    }

    private static void mended(String source, int k, int b, boolean due) {
        spoiled(source, "byte " + k + " as " + b, due, k, b);
    }

    /** Spoils bytes (places and what they become), mends the sum and opens. */
    private static void spoiled(String source, String how, boolean due, int... changes) {
        HelpFile file = Use.compiled(source);
        for (int k = 0; k < changes.length; k += 2) {
            Use.spoilAndMend(file, changes[k], changes[k + 1]);
        }
        String told = source.replace("\n", "/") + ", " + how;
        CHECK.same("the model on " + told, Model.isSound(copy(file)) ? 1 : 0, due ? 1 : 0);
        CHECK.same("open() of " + told, file.open() ? 1 : 0, due ? 1 : 0);
    }

    /** An image of a source of more than 700 signs is sound, however it came to be. */
    private static void longerSource() {
        StringBuilder source = new StringBuilder();
        for (char name = 'a'; name <= 'j'; name++) {
            source.append("#").append(name).append("\n").append(Use.repeat("" + name, 254)).append("\n");
        }
        int[] image = Model.of(source.toString()).image;
        HelpFile file = Use.turnedInto(image);
        CHECK.yes("open() of an image of a long source", file.open());
        CHECK.same("its topics", file.about(1), 10);
        CHECK.same("its bodies", file.about(5), 255);
        CHECK.same("its lines", file.show(40), 7);
        file.spoil(image.length - 3, 1);
        CHECK.no("open() of a spoilt one", file.open());
    }

    private static void whatIsOpenStays() {
        HelpFile file = Use.opened("#a\nx [b]\n#b\ny\n!key");
        file.follow(0);
        file.jump(1);
        file.go(false);
        int name = file.spoil(2, 'z');
        CHECK.no("open() of a spoilt image", file.open());
        CHECK.same("the topic stays", file.about(0), 1);
        CHECK.same("the back stack stays", file.about(3), 1);
        CHECK.same("the forward stack stays", file.about(4), 1);
        file.end(0);
        Use.feed(file, "#other\nq");
        CHECK.same("compile another", file.compile(), 0);
        CHECK.same("the topics that are open", file.about(1), 2);
        CHECK.same("the words that are open", Use.search(file, "x|y"), 3);
        CHECK.same("the keywords that are open", Use.keyword(file, "key"), 2);
        CHECK.same("the shown", Use.shown(file, 9), "y/");
        CHECK.yes("open() the other", file.open());
        CHECK.same("at topic 0", file.about(0), 0);
        CHECK.same("back is empty", file.about(3), 0);
        CHECK.same("forward is empty", file.about(4), 0);
        CHECK.same("the other's topics", file.about(1), 1);
        CHECK.same("the other's words", Use.search(file, "q"), 1);
        CHECK.same("without the first's", Use.search(file, "x|y"), 0);
        CHECK.same("spoil told the name", name, 'a');
    }
}

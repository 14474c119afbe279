import java.util.NoSuchElementException;

/** Promises 8 to 12 at their edges: what open() begins, jump, follow, go and about. */
public final class EdgeVisitTest {
    private static final Class<NoSuchElementException> NO_SUCH = NoSuchElementException.class;
    private static final Check CHECK = new Check();

    public static void main(String[] args) {
        opening();
        openingAgain();
        whatWasOpenStays();
        asTheImageWasThen();
        nothingIsLeft();
        jumpsInside();
        jumpToTheSame();
        linksInside();
        mostLinks();
        fromTheTopicItIsAt();
        sixteenBack();
        seventeenBack();
        sixteenForward();
        emptiedForward();
        backAndForward();
        emptyStacks();
        aboutInside();
        aboutEachTopic();
        CHECK.finish("EdgeVisitTest");
    }

    private static void state(String when, HelpFile file, int topic, int back, int forward) {
        CHECK.same("the topic " + when, file.about(0), topic);
        CHECK.same("the back stack " + when, file.about(3), back);
        CHECK.same("the forward stack " + when, file.about(4), forward);
    }

    private static void opening() {
        CHECK.sentence("Opens the image, if it is sound: at topic 0, both stacks empty: whether it is");
        CHECK.no("open() without an image", new HelpFile().open());
        CHECK.no("open() with a source alone", Use.withSource("#a").open());
        HelpFile faulty = Use.withSource("#");
        faulty.compile();
        CHECK.no("open() behind a fault", faulty.open());
        for (int topics = 1; topics <= 10; topics++) {
            HelpFile file = Use.compiled(Use.topics(topics));
            CHECK.yes("open()", file.open());
            state("behind open()", file, 0, 0, 0);
            CHECK.same("topics", file.about(1), topics);
        }
    }

    private static void openingAgain() {
        CHECK.sentence("at topic 0, both stacks empty");
        HelpFile file = Use.opened("#a\n#b\n#c");
        file.jump(1);
        file.jump(2);
        file.jump(1);
        file.go(false);
        state("before", file, 2, 2, 1);
        CHECK.yes("open() again", file.open());
        state("behind open() again", file, 0, 0, 0);
        CHECK.fails("back", NO_SUCH, () -> file.go(false));
        CHECK.fails("forward", NO_SUCH, () -> file.go(true));
    }

    private static void whatWasOpenStays() {
        CHECK.sentence("(otherwise what was open stays)");
        HelpFile file = Use.opened("#a\n!k\nx [b]\n#b\ny");
        file.follow(0);
        file.jump(0);
        file.go(false);
        file.show(5);
        Use.type(file, "x");
        int before = file.spoil(0, 73);
        CHECK.no("open() of a spoilt image", file.open());
        state("then", file, 1, 1, 1);
        CHECK.same("topics then", file.about(1), 2);
        CHECK.same("the query's words then", file.search(), 1);
        CHECK.same("the keywords then", Use.keyword(file, "k"), 1);
        CHECK.same("what is shown then", file.sign(0, 0), 'y');
        CHECK.same("forward then", file.go(true), 0);
        CHECK.same("a link then", file.follow(0), 1);
        file.spoil(0, before);
        CHECK.yes("open() of the mended image", file.open());
        state("behind that", file, 0, 0, 0);
    }

    private static void asTheImageWasThen() {
        CHECK.sentence("What is open is as the image was then, whatever becomes of that.");
        HelpFile file = Use.opened("#a\n!k\nx [b]\n#b\ny");
        int length = file.at(-1);
        for (int k = 0; k < length; k++) {
            file.spoil(k, 0);
        }
        CHECK.same("topics of a spoilt image", file.about(1), 2);
        CHECK.same("links", file.about(2), 1);
        CHECK.same("its body", file.about(5), 5);
        CHECK.same("its words", Use.search(file, "x"), 1);
        CHECK.same("its keywords", Use.keyword(file, "k"), 1);
        CHECK.same("its lines", Use.shown(file, 9), "x [b]/");
        CHECK.same("its links", file.follow(0), 1);
        file.end(0);
        Use.feed(file, "#c\n!l\nz");
        CHECK.same("compile() of another source", file.compile(), 0);
        CHECK.same("topics then", file.about(1), 2);
        CHECK.same("words then", Use.search(file, "z"), 0);
        CHECK.same("keywords then", Use.keyword(file, "l"), 0);
        CHECK.same("lines then", Use.shown(file, 9), "y/");
        CHECK.same("back then", file.go(false), 0);
        CHECK.sentence("The VIEWER has the image that was opened last, and is at one of its topics.");
        CHECK.yes("open() of the other", file.open());
        CHECK.same("its topics", file.about(1), 1);
        CHECK.same("its words", Use.search(file, "z"), 1);
        CHECK.same("its keywords", Use.keyword(file, "l"), 1);
        CHECK.same("no others", Use.keyword(file, "k"), 0);
        CHECK.fails("jump(1)", NO_SUCH, () -> file.jump(1));
    }

    /** Images with less and less in them, each opened twice: what is gone isn't found. */
    private static void nothingIsLeft() {
        CHECK.sentence("The VIEWER has the image that was opened last, and is at one of its topics.");
        HelpFile file = new HelpFile();
        String[] words = {"e", "d", "c", "b", "a"};
        for (int left = 5; left >= 0; left--) {
            file.end(0);
            Use.feed(file, "#t\n");
            for (int k = 5 - left; k < 5; k++) {
                Use.feed(file, "!" + words[k] + "\n" + words[k] + "\n");
            }
            CHECK.same("compile()", file.compile(), 0);
            CHECK.yes("open()", file.open());
            CHECK.yes("open() again", file.open());
            for (int k = 0; k < 5; k++) {
                int due = k < 5 - left ? 0 : 1;
                CHECK.same("word " + words[k] + ", " + left + " left", Use.search(file, words[k]), due);
                CHECK.same("keyword " + words[k] + ", " + left + " left",
                        Use.keyword(file, words[k]), due);
                CHECK.same("nodes then", file.visited(), left == 5 ? 2 : left == 0 ? 0 : 1);
            }
            CHECK.same("the body's length", file.about(5), 2 * left);
            CHECK.same("lines", file.show(4), left == 0 ? 0 : 2 * left - 1);
        }
    }

    private static void jumpsInside() {
        CHECK.sentence("NoSuchElementException if there is no such topic.");
        for (int topics = 1; topics <= 10; topics++) {
            HelpFile file = Use.opened(Use.topics(topics));
            int[] outside = {-1, topics, topics + 1, 10, 255, Integer.MAX_VALUE, Integer.MIN_VALUE};
            for (int topic : outside) {
                CHECK.fails("jump(" + topic + ") of " + topics, NO_SUCH, () -> file.jump(topic));
            }
            state("behind that", file, 0, 0, 0);
            for (int topic = 0; topic < topics; topic++) {
                file.jump(topic);
                CHECK.same("jump(" + topic + ") of " + topics, file.about(0), topic);
            }
        }
    }

    private static void jumpToTheSame() {
        CHECK.sentence("Goes to a topic (also to the one it is at: that is a visit, too).");
        HelpFile file = Use.opened("#a\n[a]\n#b");
        file.jump(0);
        state("behind jump(0)", file, 0, 1, 0);
        CHECK.same("follow(0) to the same", file.follow(0), 0);
        state("behind follow(0)", file, 0, 2, 0);
        CHECK.same("back", file.go(false), 0);
        state("behind back", file, 0, 1, 1);
        file.jump(0);
        state("behind jump(0) again", file, 0, 2, 0);
    }

    private static void linksInside() {
        CHECK.sentence("NoSuchElementException if there is no such link.");
        for (int links = 0; links <= 5; links++) {
            HelpFile file = Use.opened("#a\nx " + Use.repeat("[b]", links) + "\n#b\n[a]");
            CHECK.same("about(2)", file.about(2), links);
            int[] outside = {-1, links, links + 1, Integer.MAX_VALUE, Integer.MIN_VALUE};
            for (int k : outside) {
                CHECK.fails("follow(" + k + ") of " + links, NO_SUCH, () -> file.follow(k));
            }
            state("behind that", file, 0, 0, 0);
            for (int k = 0; k < links; k++) {
                CHECK.same("follow(" + k + ") of " + links, file.follow(k), 1);
                CHECK.same("back from it", file.go(false), 0);
            }
        }
        HelpFile empty = Use.opened("#a");
        CHECK.fails("follow(0) of a topic without a body", NO_SUCH, () -> empty.follow(0));
    }

    private static void mostLinks() {
        CHECK.sentence("Follows the k-th link (from 0 on) of the topic: where it is then.");
        HelpFile file = Use.opened("#a\n" + Use.repeat("[a]", 126) + "[b]\n#b\n" + Use.repeat("[c]", 99)
                + "\n#c");
        CHECK.same("127 links", file.about(2), 127);
        CHECK.same("a body of 255", file.about(5), 255);
        CHECK.fails("follow(127)", NO_SUCH, () -> file.follow(127));
        CHECK.same("follow(125)", file.follow(125), 0);
        CHECK.same("follow(126)", file.follow(126), 1);
        CHECK.same("99 links", file.about(2), 99);
        CHECK.fails("follow(99)", NO_SUCH, () -> file.follow(99));
        CHECK.same("follow(98)", file.follow(98), 2);
    }

    private static void fromTheTopicItIsAt() {
        CHECK.sentence("Follows the k-th link (from 0 on) of the topic: where it is then.");
        HelpFile file = Use.opened("#a\n[j][c]\n\n*[b]* x[a]\n#b\n[j]\n#c\n#d\n#e\n#f\n#g\n#h\n#i\n#j\n[i]");
        int[] due = {9, 2, 1, 0};
        for (int k = 0; k < due.length; k++) {
            CHECK.same("follow(" + k + ")", file.follow(k), due[k]);
            CHECK.same("where it is", file.about(0), due[k]);
            file.open();
        }
        CHECK.same("to j", file.follow(0), 9);
        CHECK.same("from j to i", file.follow(0), 8);
        state("then", file, 8, 2, 0);
    }

    private static HelpFile visited(int visits) {
        HelpFile file = Use.opened(Use.topics(10));
        for (int k = 1; k <= visits; k++) {
            file.jump(k % 10);
        }
        return file;
    }

    private static void sixteenBack() {
        CHECK.sentence("puts the one it was at onto the back stack (at most 16; the oldest goes)");
        for (int visits = 15; visits <= 16; visits++) {
            HelpFile file = visited(visits);
            state("behind " + visits, file, visits % 10, visits, 0);
            for (int k = visits - 1; k >= 0; k--) {
                CHECK.same("back to visit " + k + " of " + visits, file.go(false), k % 10);
            }
            CHECK.fails("no further back", NO_SUCH, () -> file.go(false));
            state("at the beginning", file, 0, 0, visits);
        }
    }

    private static void seventeenBack() {
        CHECK.sentence("puts the one it was at onto the back stack (at most 16; the oldest goes)");
        for (int visits = 17; visits <= 40; visits++) {
            HelpFile file = visited(visits);
            state("behind " + visits, file, visits % 10, 16, 0);
            for (int k = visits - 1; k >= visits - 16; k--) {
                CHECK.same("back to visit " + k + " of " + visits, file.go(false), k % 10);
            }
            CHECK.fails("the oldest are gone", NO_SUCH, () -> file.go(false));
            state("at the oldest that is left", file, (visits - 16) % 10, 0, 16);
        }
        HelpFile file = Use.opened("#a\n[b]\n#b\n[a]");
        for (int k = 1; k <= 17; k++) {
            CHECK.same("follow " + k, file.follow(0), k % 2);
        }
        state("behind 17 links", file, 1, 16, 0);
        for (int k = 16; k >= 1; k--) {
            CHECK.same("back to link " + k, file.go(false), k % 2);
        }
        CHECK.fails("the oldest is gone", NO_SUCH, () -> file.go(false));
    }

    private static void sixteenForward() {
        CHECK.sentence("back and forward change between them");
        HelpFile file = visited(20);
        for (int k = 19; k >= 4; k--) {
            file.go(false);
        }
        state("all the way back", file, 4, 0, 16);
        for (int k = 5; k <= 20; k++) {
            CHECK.same("forward to visit " + k, file.go(true), k % 10);
            CHECK.same("back stack", file.about(3), k - 4);
            CHECK.same("forward stack", file.about(4), 20 - k);
        }
        CHECK.fails("no further forward", NO_SUCH, () -> file.go(true));
    }

    private static void emptiedForward() {
        CHECK.sentence("and empties the forward stack");
        HelpFile file = Use.opened("#a\n[b]\n#b\n[a]\n#c");
        file.jump(1);
        file.jump(2);
        file.go(false);
        file.go(false);
        state("back twice", file, 0, 0, 2);
        file.jump(2);
        state("behind jump(2)", file, 2, 1, 0);
        CHECK.fails("forward behind jump(2)", NO_SUCH, () -> file.go(true));
        file.go(false);
        state("back", file, 0, 0, 1);
        file.follow(0);
        state("behind follow(0)", file, 1, 1, 0);
        CHECK.fails("forward behind follow(0)", NO_SUCH, () -> file.go(true));
    }

    private static void backAndForward() {
        CHECK.sentence("Back, or forward: where it is then.");
        HelpFile file = Use.opened("#a\n#b\n#c");
        file.jump(2);
        file.jump(1);
        CHECK.same("back", file.go(false), 2);
        state("behind back", file, 2, 1, 1);
        CHECK.same("forward", file.go(true), 1);
        state("behind forward", file, 1, 2, 0);
        CHECK.same("back", file.go(false), 2);
        CHECK.same("back again", file.go(false), 0);
        state("behind two back", file, 0, 0, 2);
        CHECK.same("forward", file.go(true), 2);
        CHECK.same("forward again", file.go(true), 1);
        state("behind two forward", file, 1, 2, 0);
    }

    private static void emptyStacks() {
        CHECK.sentence("NoSuchElementException if that stack is empty.");
        HelpFile file = Use.opened("#a\n#b");
        CHECK.fails("back at first", NO_SUCH, () -> file.go(false));
        CHECK.fails("forward at first", NO_SUCH, () -> file.go(true));
        state("then", file, 0, 0, 0);
        file.jump(1);
        CHECK.fails("forward behind a jump", NO_SUCH, () -> file.go(true));
        state("then", file, 1, 1, 0);
        CHECK.same("back", file.go(false), 0);
        CHECK.fails("back again", NO_SUCH, () -> file.go(false));
        state("then", file, 0, 0, 1);
        CHECK.same("forward", file.go(true), 1);
        CHECK.fails("forward again", NO_SUCH, () -> file.go(true));
        state("then", file, 1, 1, 0);
    }

    private static void aboutInside() {
        CHECK.sentence("IllegalArgumentException for another what.");
        HelpFile file = Use.opened("#a");
        int[] due = {0, 1, 0, 0, 0, 0};
        for (int what = 0; what <= 5; what++) {
            CHECK.same("about(" + what + ")", file.about(what), due[what]);
        }
        int[] outside = {-1, 6, 7, 256, Integer.MAX_VALUE, Integer.MIN_VALUE};
        for (int what : outside) {
            CHECK.fails("about(" + what + ")", IllegalArgumentException.class, () -> file.about(what));
        }
    }

    private static void aboutEachTopic() {
        CHECK.sentence("0 the topic, 1 how many topics there are, 2 how many links the topic has, 3"
                + " and 4 how many topics are on the back and the forward stack, 5 the body's length.");
        HelpFile file = Use.opened("#a\nx\n#b\n\n#c\n[a] [b][c]\n\n*y*\n#d\n" + Use.different(254));
        int[] links = {0, 0, 3, 0};
        int[] lengths = {2, 0, 12, 255};
        for (int topic = 0; topic < 4; topic++) {
            file.jump(topic);
            CHECK.same("about(0) of " + topic, file.about(0), topic);
            CHECK.same("about(1) of " + topic, file.about(1), 4);
            CHECK.same("about(2) of " + topic, file.about(2), links[topic]);
            CHECK.same("about(3) of " + topic, file.about(3), topic + 1);
            CHECK.same("about(4) of " + topic, file.about(4), 0);
            CHECK.same("about(5) of " + topic, file.about(5), lengths[topic]);
        }
        file.go(false);
        file.go(false);
        state("two back", file, 1, 2, 2);
        CHECK.same("about(5) then", file.about(5), 0);
    }
}

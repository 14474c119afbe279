import java.util.NoSuchElementException;

/** Promises 9 to 12: jump, follow, go and about. */
public final class VisitTest {
    private static final Class<NoSuchElementException> NO_SUCH = NoSuchElementException.class;
    private static final Check CHECK = new Check();

    public static void main(String[] args) {
        jumps();
        follows();
        linksToTopicsOneAndTwo();
        backAndForward();
        stackLimit();
        about();
        CHECK.finish("VisitTest");
    }

    private static void state(String when, HelpFile file, int topic, int back, int forward) {
        CHECK.same(when + ", topic", file.about(0), topic);
        CHECK.same(when + ", back", file.about(3), back);
        CHECK.same(when + ", forward", file.about(4), forward);
    }

    private static void jumps() {
        HelpFile file = Use.opened("#a\n#b\n#c");
        state("new", file, 0, 0, 0);
        file.jump(2);
        state("jump(2)", file, 2, 1, 0);
        file.jump(2);
        state("jump to the same", file, 2, 2, 0);
        CHECK.fails("jump(3)", NO_SUCH, () -> file.jump(3));
        CHECK.fails("jump(-1)", NO_SUCH, () -> file.jump(-1));
        CHECK.fails("jump(MAX)", NO_SUCH, () -> file.jump(Integer.MAX_VALUE));
        CHECK.fails("jump(MIN)", NO_SUCH, () -> file.jump(Integer.MIN_VALUE));
        state("after throws", file, 2, 2, 0);
        CHECK.same("back", file.go(false), 2);
        CHECK.fails("jump(3) with a forward stack", NO_SUCH, () -> file.jump(3));
        state("it stays", file, 2, 1, 1);
        file.jump(0);
        state("jump empties the forward stack", file, 0, 2, 0);
    }

    private static void follows() {
        HelpFile file = Use.opened("#a\nx [c] *[b]*\n\n[a][c]\n#b\nnone\n#c\n[b]");
        CHECK.same("links of a", file.about(2), 4);
        CHECK.same("follow(1)", file.follow(1), 1);
        CHECK.same("links of b", file.about(2), 0);
        CHECK.fails("follow(0) without links", NO_SUCH, () -> file.follow(0));
        state("after a throw", file, 1, 1, 0);
        CHECK.same("back", file.go(false), 0);
        CHECK.fails("follow(4)", NO_SUCH, () -> file.follow(4));
        CHECK.fails("follow(-1)", NO_SUCH, () -> file.follow(-1));
        CHECK.fails("follow(MIN)", NO_SUCH, () -> file.follow(Integer.MIN_VALUE));
        state("the forward stack stays", file, 0, 0, 1);
        CHECK.same("follow(2), to itself", file.follow(2), 0);
        state("that is a visit", file, 0, 1, 0);
        CHECK.same("follow(3)", file.follow(3), 2);
        CHECK.same("follow(0)", file.follow(0), 1);
        state("three visits", file, 1, 3, 0);
    }

    /** The numbers 1 and 2 behind the mark of a link are no marks themselves. */
    private static void linksToTopicsOneAndTwo() {
        HelpFile file = Use.opened("#a\n[c][c][b][c]*[c]*[j]\n#b\n#c\n#d\n#e\n#f\n#g\n#h\n#i\n#j");
        CHECK.same("links", file.about(2), 6);
        int[] due = {2, 2, 1, 2, 2, 9};
        for (int k = 0; k < due.length; k++) {
            CHECK.same("follow(" + k + ")", file.follow(k), due[k]);
            file.go(false);
        }
        CHECK.fails("follow(6)", NO_SUCH, () -> file.follow(6));
    }

    private static void backAndForward() {
        HelpFile file = Use.opened("#a\n#b\n#c\n#d");
        CHECK.fails("back at first", NO_SUCH, () -> file.go(false));
        CHECK.fails("forward at first", NO_SUCH, () -> file.go(true));
        file.jump(1);
        file.jump(2);
        file.jump(3);
        CHECK.same("back to 2", file.go(false), 2);
        CHECK.same("back to 1", file.go(false), 1);
        state("in the middle", file, 1, 1, 2);
        CHECK.same("forward to 2", file.go(true), 2);
        CHECK.same("back to 1 again", file.go(false), 1);
        CHECK.same("back to 0", file.go(false), 0);
        CHECK.fails("back no further", NO_SUCH, () -> file.go(false));
        state("at the first", file, 0, 0, 3);
        CHECK.same("forward to 1", file.go(true), 1);
        CHECK.same("forward to 2", file.go(true), 2);
        CHECK.same("forward to 3", file.go(true), 3);
        CHECK.fails("forward no further", NO_SUCH, () -> file.go(true));
        state("at the last", file, 3, 3, 0);
    }

    private static void stackLimit() {
        HelpFile file = Use.opened("#a\n#b\n#c\n#d\n#e\n#f\n#g\n#h\n#i\n#j");
        for (int k = 1; k <= 18; k++) {
            file.jump(k % 10);
            CHECK.same("back stack after " + k, file.about(3), Math.min(k, 16));
        }
        for (int k = 17; k >= 2; k--) {
            CHECK.same("back to visit " + k, file.go(false), k % 10);
        }
        CHECK.fails("the oldest are gone", NO_SUCH, () -> file.go(false));
        state("all forward", file, 2, 0, 16);
        for (int k = 3; k <= 18; k++) {
            CHECK.same("forward to visit " + k, file.go(true), k % 10);
        }
        state("all back", file, 8, 16, 0);
    }

    private static void about() {
        HelpFile file = Use.opened("#a\nab [b]\n\n*c*\n#b");
        CHECK.same("topics", file.about(1), 2);
        CHECK.same("links", file.about(2), 1);
        CHECK.same("body's length", file.about(5), 10);
        file.jump(1);
        CHECK.same("topic", file.about(0), 1);
        CHECK.same("no links", file.about(2), 0);
        CHECK.same("an empty body", file.about(5), 0);
        Class<IllegalArgumentException> wrong = IllegalArgumentException.class;
        CHECK.fails("about(6)", wrong, () -> file.about(6));
        CHECK.fails("about(-1)", wrong, () -> file.about(-1));
        CHECK.fails("about(MAX)", wrong, () -> file.about(Integer.MAX_VALUE));
        HelpFile longest = Use.opened("#a\n" + Use.repeat("x", 254));
        CHECK.same("the longest body", longest.about(5), 255);
    }
}

/** Promise 4 at its edges: the lines of a source, and the bodies that its text gives. */
public final class EdgeLinesTest {
    private static final Check CHECK = new Check();

    public static void main(String[] args) {
        names();
        keywords();
        toldTwice();
        endWithTheLine();
        blankLinesPart();
        headingsAndKeywordsPart();
        beginWithTheFirstSign();
        marks();
        onlySignsThatAreNotBlank();
        rowsOfBlanks();
        everySign();
        numbersOfTopics();
        tenTopics();
        bodyOf255();
        CHECK.finish("EdgeLinesTest");
    }

    private static void compiles(String source, int kind) {
        CHECK.same("compile() of " + source.replace("\n", "/"),
                Use.withSource(source).compile(), kind);
    }

    private static void body(String text, String due) {
        CHECK.same("the body of " + text.replace("\n", "/"), Use.body("#a\n" + text, 0), due);
    }

    private static void names() {
        CHECK.sentence("#NAME begins a TOPIC (NAMES are one to six small letters)");
        for (int length = 0; length <= 40; length++) {
            compiles("#" + Use.repeat("n", length), length >= 1 && length <= 6 ? 0 : 2);
        }
        for (char sign = 32; sign <= 126; sign++) {
            int due = sign >= 'a' && sign <= 'z' ? 0 : 2;
            compiles("#" + sign, due);
            compiles("#" + sign + "bcdef", due);
            compiles("#ab" + sign + "def", due);
            compiles("#abcde" + sign, due);
            compiles("#abcdef" + sign, 2);
        }
        int[] image = Use.image("#az\n#abcdef");
        CHECK.same("a short name", Use.told(image, 2, 8), "97 122 0 0 0 0");
        CHECK.same("a name of six", Use.told(image, 12, 18), "97 98 99 100 101 102");
    }

    private static void keywords() {
        CHECK.sentence("!WORD is a KEYWORD of the topic (one to eight small letters;"
                + " told twice it is one)");
        for (int length = 0; length <= 40; length++) {
            compiles("#a\n!" + Use.repeat("k", length), length >= 1 && length <= 8 ? 0 : 3);
        }
        for (char sign = 32; sign <= 126; sign++) {
            int due = sign >= 'a' && sign <= 'z' ? 0 : 3;
            compiles("#a\n!" + sign, due);
            compiles("#a\n!" + sign + "bcdefgh", due);
            compiles("#a\n!abcd" + sign + "fgh", due);
            compiles("#a\n!abcdefg" + sign, due);
            compiles("#a\n!abcdefgh" + sign, 3);
        }
        CHECK.same("a keyword of eight", Use.behindBodies("#a\n!abcdefgh"),
                "1 1 8 97 98 99 100 101 102 103 104 1 0 0 0");
        CHECK.same("a keyword of one", Use.behindBodies("#a\n!z"), "1 1 1 122 1 0 0 0");
    }

    private static void toldTwice() {
        CHECK.sentence("!WORD is a KEYWORD of the topic (one to eight small letters;"
                + " told twice it is one)");
        String once = Use.behindBodies("#a\n!k");
        CHECK.same("twice", Use.behindBodies("#a\n!k\n!k"), once);
        CHECK.same("four times, with others between", Use.behindBodies("#a\n!k\n!l\n!k\nx\n!k\n!k"),
                Use.behindBodies("#a\n!k\n!l\nx"));
        CHECK.same("in two topics", Use.behindBodies("#a\n!k\n#b\n!k\n!k"), "1 1 1 107 3 0 0 0");
        CHECK.same("in the second of two", Use.behindBodies("#a\n#b\n!k"), "1 1 1 107 2 0 0 0");
        CHECK.same("four and a fifth that is the first again",
                Use.behindBodies("#a\n!a\n!b\n!c\n!d\n!a"), Use.behindBodies("#a\n!a\n!b\n!c\n!d"));
    }

    private static void endWithTheLine() {
        CHECK.sentence("both end with the line");
        compiles("#a", 0);
        compiles("#a\n", 0);
        compiles("#a ", 2);
        compiles("#a b", 2);
        compiles("#a\n!k\n", 0);
        compiles("#a\n!k ", 3);
        compiles("#a\n!k l", 3);
        CHECK.same("text behind a heading's line", Use.body("#a\nb", 0), "98 10");
        CHECK.same("text behind a keyword's line", Use.body("#a\n!k\nb", 0), "98 10");
        CHECK.same("a heading behind a heading", Use.image("#a\n#b")[1], 2);
    }

    private static void blankLinesPart() {
        CHECK.sentence("All others are TEXT; those of blanks alone, or nothing, part PARAGRAPHS");
        body("x\ny", "120 32 121 10");
        body("x\n\ny", "120 10 121 10");
        body("x\n \ny", "120 10 121 10");
        body("x\n" + Use.repeat(" ", 600) + "\ny", "120 10 121 10");
        body("x\n\n\n  \n\ny", "120 10 121 10");
        body("x\n.\ny", "120 32 46 32 121 10");
    }

    private static void headingsAndKeywordsPart() {
        CHECK.sentence("as the lines with # and ! do");
        body("x\n!k\ny", "120 10 121 10");
        body("x\n!k\n!l\ny", "120 10 121 10");
        body("!k\ny\n!k", "121 10");
        String source = "#a\nx\n#b\ny";
        CHECK.same("ahead of a heading", Use.body(source, 0), "120 10");
        CHECK.same("behind a heading", Use.body(source, 1), "121 10");
    }

    private static void beginWithTheFirstSign() {
        CHECK.sentence("(a line begins with its first sign)");
        body("x\n #b\ny", "120 32 35 98 32 121 10");
        body("x\n !k\ny", "120 32 33 107 32 121 10");
        body("x #b !k", "120 32 35 98 32 33 107 10");
        CHECK.same("no topic of its own", Use.image("#a\n #b")[1], 1);
        CHECK.same("no keyword", Use.behindBodies("#a\n !1"), "0 0 0");
        compiles(" #a", 1);
    }

    private static void marks() {
        CHECK.sentence("In text * turns EMPHASIS on and off; [NAME] is a LINK to that topic.");
        body("*x*", "1 120 1 10");
        body("x*y z*", "120 1 121 32 122 1 10");
        body("****", "1 1 1 1 10");
        body("*\n*", "1 32 1 10");
        body("[a]", "2 0 10");
        body("x[a]y", "120 2 0 121 10");
        body("*[a]*", "1 2 0 1 10");
        CHECK.same("a name of six", Use.body("#abcdef\n[abcdef]", 0), "2 0 10");
        CHECK.same("a link to a later topic", Use.body("#a\n[b]\n#b", 0), "2 1 10");
    }

    private static void onlySignsThatAreNotBlank() {
        CHECK.sentence("for each paragraph that has a sign other than a blank its signs");
        body("", "");
        body(" ", "");
        body("\n \n\n   \n", "");
        body("!k\n \n!l", "");
        body("\n \nx", "120 10");
        body("x\n \n", "120 10");
        CHECK.sentence("(* and a link are signs other than blanks.)");
        body(" ** ", "1 1 10");
        body(" [a] ", "2 0 10");
        body("x\n\n**\n\n[a]\n\ny", "120 10 1 1 10 2 0 10 121 10");
    }

    private static void rowsOfBlanks() {
        CHECK.sentence("each row of blanks and line ends within it as one blank,"
                + " none at its beginning and end");
        body("x y", "120 32 121 10");
        body("x  y", "120 32 121 10");
        body("x" + Use.repeat(" ", 600) + "y", "120 32 121 10");
        body("x \ny", "120 32 121 10");
        body("x\n y", "120 32 121 10");
        body("x   \n   y", "120 32 121 10");
        body(" x", "120 10");
        body("   x   ", "120 10");
        body("x \n\n y", "120 10 121 10");
        body(" * x * ", "1 32 120 32 1 10");
        body("[a] [a]", "2 0 32 2 0 10");
        body("[a]\n[a]", "2 0 32 2 0 10");
    }

    /** All signs but the three marks go into the body as they are. */
    private static void everySign() {
        CHECK.sentence("1 for *, 2 and the topic's number for a link; at last 10.");
        for (char sign = 33; sign <= 126; sign++) {
            if (sign != '*' && sign != '[' && sign != ']') {
                body("x" + sign, "120 " + (int) sign + " 10");
                body(" " + sign, (int) sign + " 10");
            }
        }
        body("x**", "120 1 1 10");
        body("x[a]", "120 2 0 10");
    }

    private static void numbersOfTopics() {
        CHECK.sentence("Topics are numbered from 0 in the order of the source, at most ten");
        StringBuilder source = new StringBuilder("#j\n[j][i][h][g][f][e][d][c][b][a]\n");
        for (char name = 'i'; name >= 'a'; name--) {
            source.append('#').append(name).append('\n');
        }
        CHECK.same("links to all ten", Use.body(source.toString(), 0),
                "2 0 2 1 2 2 2 3 2 4 2 5 2 6 2 7 2 8 2 9 10");
    }

    private static void tenTopics() {
        CHECK.sentence("Topics are numbered from 0 in the order of the source, at most ten");
        for (int count = 0; count <= 12; count++) {
            compiles(Use.topics(count), count == 0 ? 10 : count <= 10 ? 0 : 5);
        }
        CHECK.same("how many topics", Use.image(Use.topics(10))[1], 10);
    }

    private static void bodyOf255() {
        CHECK.sentence("a body has at most 255 bytes");
        String[] starts = {"", "[a]", "*x*", "x\n\ny\n\n", "   ", "x    \n    y "};
        int[] bytes = {0, 2, 3, 4, 0, 4};
        for (int k = 0; k < starts.length; k++) {
            int signs = 254 - bytes[k];
            longest("#a\n" + starts[k] + Use.different(signs), 0);
            compiles("#a\n" + starts[k] + Use.different(signs + 1), 9);
        }
        longest("#a\n" + Use.different(252) + "[a]", 0);
        compiles("#a\n" + Use.different(253) + "[a]", 9);
        longest("#a\n" + Use.different(252) + "**", 0);
        compiles("#a\n" + Use.different(253) + "**", 9);
        longest("#a\n" + Use.different(252) + "\n\nx", 0);
        compiles("#a\n" + Use.different(253) + "\n\nx", 9);
        longest("#a\n" + Use.repeat("x", 254), 0);
        compiles("#a\n" + Use.repeat("x", 255), 9);
        longest("#b\n#a\n" + Use.different(254) + "  \n \n!k", 1);
        compiles("#b\n#a\n" + Use.different(255) + "  \n \n!k", 9);
        longest("#a\n" + Use.different(254) + "\n#b\n" + Use.different(254), 1);
    }

    private static void longest(String source, int topic) {
        int[] image = Use.image(source);
        CHECK.same("the body's length", image[8 + 10 * topic], 255);
        CHECK.same("its upper byte", image[9 + 10 * topic], 0);
        CHECK.same("bytes of the body", Use.body(source, topic).split(" ").length, 255);
        HelpFile file = Use.opened(source);
        file.jump(topic);
        CHECK.same("about(5)", file.about(5), 255);
    }
}

/** Promises 4 and 5 at their edges: each kind of fault, and which stands ahead of which. */
public final class EdgeFaultTest {
    private static final String LONG = Use.different(255);
    private static final Check CHECK = new Check();

    public static void main(String[] args) {
        textAheadOfTopics();
        keywordAheadOfTopics();
        headings();
        headingAheadOfOthers();
        keywords();
        namesAgain();
        eleventhTopic();
        openedLinks();
        closedLinks();
        emphasisAtTheEnd();
        lineOfEmphasis();
        targets();
        tooLong();
        withoutTopics();
        firstOfTwo();
        firstOfTwoAtTheBeginning();
        lateKindsWait();
        lines();
        theLastLine();
        zeroAndTheImage();
        imageStays();
        lineOfTheLatest();
        CHECK.finish("EdgeFaultTest");
    }

    private static void fault(String source, int kind, int line) {
        HelpFile file = Use.withSource(source);
        String told = source.length() > 80 ? source.substring(0, 80) + " .." : source;
        CHECK.same("compile() of " + told.replace("\n", "/"), file.compile(), kind);
        CHECK.same("line() of " + told.replace("\n", "/"), file.line(), line);
    }

    private static void none(String source) {
        fault(source, 0, HelpFile.NONE);
    }

    private static void textAheadOfTopics() {
        CHECK.sentence("1 text that isn't blank ahead of the first topic");
        for (char sign = 33; sign <= 126; sign++) {
            fault(" " + sign + "\n#a", 1, 0);
            if (sign != '#' && sign != '!') {
                fault("" + sign + "\n#a", 1, 0);
            }
        }
        none(" \n#a");
        none("\n\n   \n#a");
        none("#a\nx");
        fault("\n\n x\n#a", 1, 2);
        fault("x", 1, 0);
        fault("[a]", 1, 0);
        fault("**", 1, 0);
    }

    private static void keywordAheadOfTopics() {
        CHECK.sentence("(or a line with ! there, whatever stands behind it)");
        fault("!k\n#a", 1, 0);
        fault("!\n#a", 1, 0);
        fault("!K\n#a", 1, 0);
        fault("! \n#a", 1, 0);
        fault("!abcdefghi\n#a", 1, 0);
        fault("!]\n#a", 1, 0);
        fault("\n \n!k", 1, 2);
        none("#a\n!k");
    }

    private static void headings() {
        CHECK.sentence("2 a heading that isn't # and a name");
        fault("#", 2, 0);
        fault("#\na", 2, 0);
        none("#a");
        none("#abcdef");
        fault("#abcdefg", 2, 0);
        fault("##", 2, 0);
        fault("#a#", 2, 0);
        fault("#[a]", 2, 0);
        fault("#*a*", 2, 0);
        fault("#a\n#b\nx\n#", 2, 3);
    }

    private static void headingAheadOfOthers() {
        CHECK.sentence("(ahead of 4, that ahead of 5)");
        String ten = Use.topics(10);
        fault(ten + "#a ", 2, 10);
        fault(ten + "#k ", 2, 10);
        fault(ten + "#", 2, 10);
        fault(ten + "#a", 4, 10);
        fault(ten + "#j", 4, 10);
        fault(ten + "#k", 5, 10);
        fault(ten + "#aa", 5, 10);
        fault(Use.topics(9) + "#a ", 2, 9);
        fault(Use.topics(9) + "#i", 4, 9);
        none(Use.topics(9) + "#j");
        fault("#a\n#a1", 2, 1);
    }

    private static void keywords() {
        CHECK.sentence("3 a keyword that isn't one");
        fault("#a\n!", 3, 1);
        none("#a\n!k");
        none("#a\n!abcdefgh");
        fault("#a\n!abcdefghi", 3, 1);
        fault("#a\n!k ", 3, 1);
        fault("#a\n!!", 3, 1);
        fault("#a\n!k\n\n!l\n!]", 3, 4);
    }

    private static void namesAgain() {
        CHECK.sentence("4 a topic's name again");
        fault("#a\n#a", 4, 1);
        fault("#a\n#b\n#a", 4, 2);
        fault("#a\n#b\n#b", 4, 2);
        fault("#abcdef\n#abcdef", 4, 1);
        none("#abcdef\n#abcdeg");
        none("#abcdef\n#abcde");
        none("#a\n#aa\n#aaa");
        none("#ab\n#ba");
    }

    private static void eleventhTopic() {
        CHECK.sentence("5 an eleventh topic");
        none(Use.topics(9));
        none(Use.topics(10));
        fault(Use.topics(11), 5, 10);
        fault(Use.topics(12), 5, 10);
        fault(Use.topics(10) + "x\n\n#k", 5, 12);
    }

    private static void openedLinks() {
        CHECK.sentence("6 a [ without a name and ] behind it in its line");
        none("#a\n[a]");
        fault("#a\n[", 6, 1);
        fault("#a\n[]", 6, 1);
        fault("#a\n[a", 6, 1);
        fault("#a\n[a\n]", 6, 1);
        fault("#a\n[\na]", 6, 1);
        fault("#a\n[ a]", 6, 1);
        fault("#a\n[a ]", 6, 1);
        fault("#a\n[[a]", 6, 1);
        none("#abcdef\n[abcdef]");
        fault("#abcdef\n[abcdefg]", 6, 1);
        fault("#abcdef\n[abcdef", 6, 1);
        for (char sign = 32; sign <= 126; sign++) {
            boolean isSmall = sign >= 'a' && sign <= 'z';
            fault("#abc\n[" + sign + "]", isSmall ? 8 : 6, 1);
            fault("#abc\n[a" + sign + "]", isSmall ? 8 : 6, 1);
            fault("#abc\n[abc" + sign, sign == ']' ? 0 : 6, sign == ']' ? -1 : 1);
        }
    }

    private static void closedLinks() {
        CHECK.sentence("or a ] that doesn't end a link");
        fault("#a\n]", 6, 1);
        fault("#a\na]", 6, 1);
        fault("#a\n[a]]", 6, 1);
        none("#a\n[a][a]");
        fault("#a\nx\ny [a] ] [a]", 6, 2);
    }

    private static void emphasisAtTheEnd() {
        CHECK.sentence("7 emphasis that is on at its paragraph's end");
        for (int stars = 0; stars <= 6; stars++) {
            String row = Use.repeat("*", stars);
            int kind = stars % 2 == 0 ? 0 : 7;
            int line = stars % 2 == 0 ? -1 : 1;
            fault("#a\n" + row, kind, line);
            fault("#a\nx" + row + "\n", kind, line);
            fault("#a\n" + row + "x\n\n**", kind, line);
            fault("#a\n" + row + "x\n \n", kind, line);
            fault("#a\n" + row + "x\n#b\n", kind, line);
            fault("#a\n" + row + "x\n!k\n", kind, line);
            fault("#a\n" + row + "[a]", kind, line);
        }
        none("#a\n*x\ny*");
        fault("#a\n*x\n\ny*", 7, 1);
        fault("#a\n*x\n!k\ny*", 7, 1);
        fault("#a\n*x\n#b\ny*", 7, 1);
        fault("#a\n**\n\n*", 7, 3);
    }

    private static void lineOfEmphasis() {
        CHECK.sentence("(the paragraph's last line with a sign that isn't blank)");
        fault("#a\n*", 7, 1);
        fault("#a\n*\n", 7, 1);
        fault("#a\n*\n\n\n", 7, 1);
        fault("#a\n*\n   ", 7, 1);
        fault("#a\n*x\ny", 7, 2);
        fault("#a\n*x\ny\nz", 7, 3);
        fault("#a\n*x\ny\nz\n    \n\n", 7, 3);
        fault("#a\nx\n*\n#b", 7, 2);
        fault("#a\n*\nx\n!k", 7, 2);
    }

    private static void targets() {
        CHECK.sentence("8 the first link to a name that no topic has");
        none("#a\n[a]");
        none("#a\n[b]\n#b");
        fault("#a\n[b]", 8, 1);
        fault("#ab\n[a]", 8, 1);
        fault("#a\n[ab]", 8, 1);
        fault("#abcdef\n[abcdeg]", 8, 1);
        fault("#a\n[a]\n[b]\n[c]", 8, 2);
        fault("#a\nx [a]\n [a][b][c]\n\n[c]", 8, 2);
        fault("#a\n!k\n[k]", 8, 2);
        fault("#a\n#b\n[c]\n#d\n[e]", 8, 2);
        fault("#a\n" + Use.repeat("[a]", 231) + "[b]", 8, 1);
    }

    private static void tooLong() {
        CHECK.sentence("9 the first topic whose body is too long (its heading's line)");
        none("#a\n" + LONG.substring(1));
        fault("#a\n" + LONG, 9, 0);
        fault("#a\n\nx\n#b\n\n" + LONG, 9, 3);
        fault("#a\n" + LONG + "\n#b\n" + LONG, 9, 0);
        fault("#a\n\n#b\n" + LONG + "\n#c\n" + LONG, 9, 2);
        fault("#a\n" + Use.repeat("x", 697), 9, 0);
    }

    private static void withoutTopics() {
        CHECK.sentence("10 a source without topics (line 0)");
        fault("", 10, 0);
        fault(" ", 10, 0);
        fault("\n", 10, 0);
        fault("\n \n   \n\n", 10, 0);
        fault(Use.repeat("\n", 700), 10, 0);
        fault(Use.repeat(" ", 700), 10, 0);
        none("\n\n#a");
    }

    /** Lines with one fault each, behind ten topics; each pair of them in both orders. */
    private static void firstOfTwo() {
        CHECK.sentence("The first FAULT of a source, going over it line by line, sign by sign,"
                + " has a KIND and a line (from 0 on)");
        String[] faulty = {"# ", "!", "#c", "#k", "x ]", "*x"};
        int[] kinds = {2, 3, 4, 5, 6, 7};
        for (int k = 0; k < faulty.length; k++) {
            for (String second : faulty) {
                fault(Use.topics(10) + faulty[k] + "\n\n" + second, kinds[k], 10);
                fault(Use.topics(10) + "y\n" + faulty[k] + "\n\n" + second, kinds[k], 11);
            }
        }
        fault("#a\n*x ]", 6, 1);
        fault("#a\n*x\n]", 6, 2);
        fault("#a\n] *x", 6, 1);
        fault("#a\n*x\n#", 7, 1);
        fault("#a\n*x\n!", 7, 1);
        fault("#a\n*x\n\n]", 7, 1);
    }

    private static void firstOfTwoAtTheBeginning() {
        CHECK.sentence("The first FAULT of a source, going over it line by line, sign by sign,"
                + " has a KIND and a line (from 0 on)");
        fault("x\n#", 1, 0);
        fault("#\nx", 2, 0);
        fault("!\n#", 1, 0);
        fault("#\n!", 2, 0);
        fault("\n]\n#a\n]", 1, 1);
        fault("\n*\n#a\n*", 1, 1);
    }

    private static void lateKindsWait() {
        CHECK.sentence("and, if there is none of these, 8 the first link to a name that no topic"
                + " has; if there is none of these, 9 the first topic whose body is too long");
        String[] faulty = {"# ", "!", "#c", "#k", "]", "*x"};
        int[] kinds = {2, 3, 4, 5, 6, 7};
        for (int k = 0; k < faulty.length; k++) {
            fault(Use.topics(10) + "[z]\n\n" + faulty[k], kinds[k], 12);
            fault(Use.topics(10) + LONG + "\n\n" + faulty[k], kinds[k], 12);
            fault(Use.topics(10) + LONG + "[z]\n\n" + faulty[k], kinds[k], 12);
        }
        fault(Use.topics(10) + LONG + "\n\n[z]", 8, 12);
        fault(Use.topics(9) + LONG + "\n#j\n\n[z]", 8, 12);
        fault(Use.topics(10) + "[z]\n\n" + LONG, 8, 10);
        fault(Use.topics(10) + LONG, 9, 9);
    }

    private static void lines() {
        CHECK.sentence("The line of the fault that the latest compile() found");
        for (int ahead = 0; ahead < 40; ahead++) {
            String blank = Use.repeat(ahead % 2 == 0 ? "\n" : " \n", ahead);
            fault(blank + "x", 1, ahead);
            fault(blank + "#", 2, ahead);
            fault("#a\n" + blank + "!", 3, 1 + ahead);
            fault("#a\n" + blank + "]", 6, 1 + ahead);
            fault("#a\n" + blank + "*\n" + blank, 7, 1 + ahead);
            fault("#a\n" + blank + "[b]", 8, 1 + ahead);
            fault(blank + "#a\n" + LONG, 9, ahead);
            fault(blank, 10, 0);
        }
    }

    private static void theLastLine() {
        CHECK.sentence("The line of the fault that the latest compile() found");
        fault(Use.repeat("\n", 699) + "x", 1, 699);
        fault(Use.repeat("\n", 699) + "#", 2, 699);
        fault("#a" + Use.repeat("\n", 697) + "]", 6, 697);
        fault("#a" + Use.repeat("\n", 697) + "*", 7, 697);
    }

    private static void zeroAndTheImage() {
        CHECK.sentence("Compiles the source: 0, and the image is its");
        HelpFile file = Use.compiled("#a");
        CHECK.same("the image's name", file.at(2), 'a');
        CHECK.same("the image's length", file.at(-1), 17);
        file.end(0);
        Use.feed(file, "#bc\n1");
        CHECK.same("before compile() the image stays", file.at(2), 'a');
        CHECK.same("compile()", file.compile(), 0);
        CHECK.same("the new image's name", file.at(2), 'b');
        CHECK.same("the new image's length", file.at(-1), 20);
        file.spoil(2, 'x');
        CHECK.same("compile() again", file.compile(), 0);
        CHECK.same("it isn't spoilt any more", file.at(2), 'b');
        file.end(2);
        CHECK.same("compile() of a shorter source", file.compile(), 0);
        CHECK.same("a shorter image", file.at(-1), 17);
    }

    private static void imageStays() {
        CHECK.sentence("or the kind of its first fault (the image stays)");
        String[] sources = {"x", "#", "#a\n!", "#a\n#a", Use.topics(11), "#a\n]", "#a\n*", "#a\n[b]",
            "#a\n" + LONG, ""};
        for (int kind = 1; kind <= 10; kind++) {
            HelpFile file = Use.compiled("#ab\n!k\nword");
            int length = file.at(-1);
            int[] before = new int[length];
            for (int k = 0; k < length; k++) {
                before[k] = file.at(k);
            }
            file.end(0);
            Use.feed(file, sources[kind - 1]);
            CHECK.same("compile()", file.compile(), kind);
            CHECK.same("the length behind fault " + kind, file.at(-1), length);
            for (int k = 0; k < length; k++) {
                CHECK.same("byte " + k + " behind fault " + kind, file.at(k), before[k]);
            }
            CHECK.yes("open() behind fault " + kind, file.open());
            CHECK.same("compile() when open", file.compile(), kind);
            CHECK.same("what is open stays behind fault " + kind, Use.search(file, "word"), 1);
            CHECK.same("the keywords stay behind fault " + kind, Use.keyword(file, "k"), 1);
        }
    }

    private static void lineOfTheLatest() {
        CHECK.sentence("NONE if it found none, and before the first.");
        HelpFile file = new HelpFile();
        CHECK.same("before the first", file.line(), HelpFile.NONE);
        Use.feed(file, "#a\n\n]");
        CHECK.same("put alone", file.line(), HelpFile.NONE);
        CHECK.same("compile()", file.compile(), 6);
        CHECK.same("the fault's line", file.line(), 2);
        CHECK.same("asked again", file.line(), 2);
        file.end(0);
        CHECK.same("behind end(0)", file.line(), 2);
        CHECK.same("compile() of nothing", file.compile(), 10);
        CHECK.same("line 0", file.line(), 0);
        Use.feed(file, "#a");
        CHECK.same("behind put", file.line(), 0);
        CHECK.same("compile() without a fault", file.compile(), 0);
        CHECK.same("none", file.line(), HelpFile.NONE);
        Use.feed(file, "\n!");
        CHECK.same("compile() with a fault", file.compile(), 3);
        CHECK.yes("open() of the image of before", file.open());
        CHECK.same("open() leaves the line", file.line(), 1);
    }
}

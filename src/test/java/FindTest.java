/** Promises 13 to 16: type, keyword, visited and search. */
public final class FindTest {
    private static final Check CHECK = new Check();

    public static void main(String[] args) {
        typing();
        keywords();
        bigTree();
        noKeywords();
        searching();
        places();
        queryEnds();
        CHECK.finish("FindTest");
    }

    private static void typing() {
        HelpFile file = new HelpFile();
        int[] wrong = {31, 127, 10, 0, -1, 256 + 65, Integer.MIN_VALUE};
        for (int sign : wrong) {
            CHECK.fails("type(" + sign + ")", IllegalArgumentException.class, () -> file.type(sign));
        }
        CHECK.same("type(32)", file.type(32), 1);
        CHECK.same("type(126)", file.type(126), 2);
        for (int k = 3; k <= 40; k++) {
            CHECK.same("type", file.type('a'), k);
        }
        CHECK.fails("type at 40", UnsupportedOperationException.class, () -> file.type('a'));
        CHECK.fails("type wrong at 40", IllegalArgumentException.class, () -> file.type(10));
    }

    private static void keyword(HelpFile file, String query, int due, int visited) {
        CHECK.same("keyword() of " + query, Use.keyword(file, query), due);
        CHECK.same("visited() after " + query, file.visited(), visited);
    }

    private static void keywords() {
        HelpFile file = Use.opened("#a\n!ab\n!abc\n!x\n#b\n!abc\n!abc\n!abcdefgh\n#c\n!x\nword");
        CHECK.same("visited() before", file.visited(), 0);
        keyword(file, "ab", 1, 1);
        keyword(file, "abc", 3, 1);
        keyword(file, "x", 5, 1);
        keyword(file, "a", 0, 1);
        keyword(file, "", 0, 1);
        keyword(file, "z", 0, 1);
        keyword(file, "word", 0, 1);
        keyword(file, "A 1-b(C", 3, 1);
        keyword(file, "abcdefgh", 2, 1);
        keyword(file, "abcdefghi", 0, 1);
        keyword(file, "abcdefghijklmnopqrstuvwxyzabcdefghijklmn", 0, 1);
        CHECK.same("the query is empty then", file.type('x'), 1);
        CHECK.same("keyword() of the rest", file.keyword(), 5);
    }

    /** Keywords aa, ac, ae ..: between any two there is room for one that is not there. */
    private static void bigTree() {
        StringBuilder source = new StringBuilder("#a\n");
        int count = 0;
        for (char first = 'b'; first <= 'f'; first++) {
            for (char second = 'b'; second <= 'z'; second += 2) {
                source.append('!').append(first).append(second).append('\n');
                count++;
            }
        }
        CHECK.same("how many", count, 65);
        HelpFile file = Use.opened(source.toString());
        keyword(file, "bb", 1, 4);
        keyword(file, "fz", 1, 4);
        keyword(file, "cx", 1, 4);
        keyword(file, "ba", 0, 1);
        keyword(file, "a", 0, 1);
        keyword(file, "", 0, 1);
        keyword(file, "zz", 0, 4);
        keyword(file, "cc", 0, 4);
        keyword(file, "bbb", 0, 4);
        HelpFile five = Use.opened("#a\n!b\n!c\n!d\n!e\n!f");
        keyword(five, "f", 1, 2);
        keyword(five, "b", 1, 2);
        keyword(five, "a", 0, 1);
        five.search();
        CHECK.same("visited() after a search", five.visited(), 1);
        five.open();
        CHECK.same("visited() after open", five.visited(), 1);
    }

    private static void noKeywords() {
        HelpFile file = Use.opened("#a\n!k");
        keyword(file, "k", 1, 1);
        file.end(2);
        file.compile();
        CHECK.yes("open()", file.open());
        CHECK.same("visited() stays until the next keyword()", file.visited(), 1);
        keyword(file, "k", 0, 0);
    }

    /** A new object each time, so that none is used for too many calls. */
    private static void searched(String source, String query, int due) {
        CHECK.same("search() of " + query, Use.search(Use.opened(source), query), due);
    }

    private static void searching() {
        String source = "#a\nRed green *bl*ue [c]\n#b\ngreen x1y\n#c\nred abcdefghijklmnop";
        String[] queries = {"red", "RED", " red ", "green", "bl", "ue", "blue", "c", "x", "y", "xy",
            "abcdefghijkl", "abcdefghijklzzzzzz", "abcdefghijk", "red&green", "red|green",
            "red | x", "!red", "!!red", "! ! ! red", "!(red|green)", "!red&green", "!(red & green)",
            "red|green&x", "(red|green)&x", "red&x|green", "nothing", "!nothing", "((red))",
            "( red | ( green ) ) & ! x", "red|!green&x|y", "red&!red", "red|!red"};
        int[] due = {5, 5, 5, 3, 1, 1, 0, 0, 2, 2, 0,
            4, 4, 0, 1, 7,
            7, 2, 5, 2, 0, 2, 6,
            7, 2, 3, 0, 7, 5,
            5, 7, 0, 7};
        for (int k = 0; k < queries.length; k++) {
            searched(source, queries[k], due[k]);
        }
        HelpFile ten = Use.opened("#a\n#b\n#c\n#d\n#e\n#f\n#g\n#h\n#i\n#j\nx");
        CHECK.same("ten topics", Use.search(ten, "!x"), 511);
        CHECK.same("the tenth", Use.search(ten, "x"), 512);
    }

    private static void places() {
        String source = "#a\nx";
        String[] queries = {"", " ", "   ", "x y", "x  y", "&", "|x", "x&", "x & ", "x&&x", "x|",
            "x!", "x!x", "!", "!!", "!&", "(", "()", "(x", "(x ", "x)", "(x))", "(x)x", "(x)(x)",
            "(x)!x", "x(", "1", "x1", "x&1", "x,y", "*", "x&|", "((x)", "(x|)", "(x&!)", "!)", "x |",
            "[x]", "~"};
        int[] places = {0, 1, 3, 2, 3, 0, 0, 2, 4, 2, 2,
            1, 1, 1, 2, 1, 1, 1, 2, 3, 1, 3, 3, 3,
            3, 1, 0, 1, 2, 1, 0, 2, 4, 3, 4, 1, 3,
            0, 0};
        for (int k = 0; k < queries.length; k++) {
            searched(source, queries[k], -1 - places[k]);
        }
        searched(source, Use.repeat("(", 40), -41);
        searched(source, Use.repeat("!", 40), -41);
        searched(source, Use.repeat("!", 39) + "x", 0);
        searched(source, Use.repeat("!", 38) + "x", 1);
        searched(source, Use.repeat("(", 19) + "x" + Use.repeat(")", 19), 1);
        searched(source, Use.repeat("(", 20) + "x" + Use.repeat(")", 19), -41);
        searched(source, Use.repeat("(", 19) + "x" + Use.repeat(")", 20), -40);
    }

    private static void queryEnds() {
        HelpFile file = Use.opened("#a\nx");
        Use.search(file, "x");
        CHECK.same("the query is empty behind a search", file.type('x'), 1);
        CHECK.same("x alone", file.search(), 1);
        Use.search(file, "x)");
        CHECK.same("and behind a wrong one", file.type('x'), 1);
        CHECK.yes("open() again", file.open());
        CHECK.same("open() leaves the query", file.type('x'), 2);
        CHECK.same("xx", file.search(), 0);
    }
}

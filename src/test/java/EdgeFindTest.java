/** Promises 13 to 16 at their edges: type, keyword, visited and search. */
public final class EdgeFindTest {
    /** Topics that have neither word, a, b, and both. */
    private static final String FOUR = "#t\nzero\n#u\na\n#v\nb\n#w\na b";
    private static final Check CHECK = new Check();

    public static void main(String[] args) {
        signsOfAQuery();
        fortySigns();
        lettersOfAKeyword();
        lengthsOfAKeyword();
        topicsOfAKeyword();
        keywordEmptiesTheQuery();
        nodesByKeywords();
        noNodes();
        latestKeyword();
        wordsOfAQuery();
        twelveLetters();
        conditions();
        ranks();
        blanksBetween();
        everyFirstSign();
        everySignBehind();
        everyPlace();
        parentheses();
        searchEmptiesTheQuery();
        searchesAreApart();
        CHECK.finish("EdgeFindTest");
    }

    private static boolean isLetter(char sign) {
        return sign >= 'a' && sign <= 'z' || sign >= 'A' && sign <= 'Z';
    }

    private static void signsOfAQuery() {
        CHECK.sentence("IllegalArgumentException if it is not 32 .. 126");
        HelpFile file = new HelpFile();
        for (int sign = -3; sign <= 260; sign++) {
            int typed = sign;
            if (sign < 32 || sign > 126) {
                CHECK.fails("type(" + sign + ")", IllegalArgumentException.class,
                        () -> file.type(typed));
            }
        }
        int[] outside = {Integer.MIN_VALUE, Integer.MAX_VALUE, 256 + 'a', 65536 + 'a'};
        for (int sign : outside) {
            CHECK.fails("type(" + sign + ")", IllegalArgumentException.class, () -> file.type(sign));
        }
        CHECK.same("the query is empty still", file.type('x'), 1);
        CHECK.sentence("One more sign of the query: how many it has.");
        for (int sign = 32; sign <= 126; sign++) {
            HelpFile other = new HelpFile();
            CHECK.same("type(" + sign + ")", other.type(sign), 1);
        }
    }

    private static void fortySigns() {
        CHECK.sentence("UnsupportedOperationException if there are 40.");
        HelpFile file = Use.opened("#a\nx");
        for (int round = 0; round < 2; round++) {
            for (int k = 1; k <= 40; k++) {
                CHECK.same("sign " + k, file.type(k == 40 ? 'x' : ' '), k);
            }
            CHECK.fails("sign 41", UnsupportedOperationException.class, () -> file.type('x'));
            CHECK.fails("sign 41 again", UnsupportedOperationException.class, () -> file.type(' '));
            CHECK.fails("a wrong sign 41", IllegalArgumentException.class, () -> file.type(31));
            CHECK.same("all forty are there, and no more", file.search(), 1);
        }
    }

    private static void keyword(HelpFile file, String query, int due) {
        CHECK.same("keyword() of <" + query + ">", Use.keyword(file, query), due);
    }

    private static void lettersOfAKeyword() {
        CHECK.sentence("the query's letters one behind the other, as small ones (other signs are left"
                + " out)");
        for (char sign = 32; sign <= 126; sign++) {
            char middle = isLetter(sign) ? Character.toLowerCase(sign) : 'x';
            HelpFile file = Use.opened("#a\n!kl\n#b\n!k" + middle + "l");
            keyword(file, "k" + sign + "l", isLetter(sign) ? 2 : 1);
            keyword(file, sign + "kl" + sign, isLetter(sign) ? 0 : 1);
            keyword(file, "" + sign, 0);
        }
        HelpFile file = Use.opened("#a\n!az");
        keyword(file, "az", 1);
        keyword(file, "AZ", 1);
        keyword(file, "aZ", 1);
        keyword(file, "  a (&|!) 0123456789 z @[`{  ", 1);
        keyword(file, "za", 0);
        keyword(file, "", 0);
        keyword(file, " 1 ", 0);
    }

    private static void lengthsOfAKeyword() {
        CHECK.sentence("The topics that have a keyword, a bit each");
        for (int length = 0; length <= 40; length++) {
            HelpFile file = Use.opened("#a\n!kkkkkkkk\n#b\n!kkkkkkk\n#c\n!k");
            keyword(file, Use.repeat("k", length),
                    length == 8 ? 1 : length == 7 ? 2 : length == 1 ? 4 : 0);
        }
        HelpFile file = Use.opened("#a\n!abcdefgh");
        keyword(file, "abcdefgh", 1);
        keyword(file, "abcdefgha", 0);
        keyword(file, "abcdefghabcd", 0);
        keyword(file, "abcdefghabcdefghabcdefghabcdefghabcdefgh", 0);
        keyword(file, "abcdefgi", 0);
        keyword(file, "abcdefgg", 0);
        keyword(file, "abcdefg", 0);
    }

    private static void topicsOfAKeyword() {
        CHECK.sentence("The topics that have a keyword, a bit each");
        StringBuilder source = new StringBuilder();
        for (int topic = 0; topic < 10; topic++) {
            source.append(Use.topics(10), 3 * topic, 3 * topic + 3);
            source.append("!all\n!only").append((char) ('a' + topic)).append("\n");
        }
        HelpFile file = Use.opened(source.toString());
        keyword(file, "all", 1023);
        for (int topic = 0; topic < 10; topic++) {
            keyword(file, "only" + (char) ('a' + topic), 1 << topic);
        }
        keyword(file, "onlyk", 0);
        keyword(file, "only", 0);
        keyword(file, "a", 0);
    }

    private static void keywordEmptiesTheQuery() {
        CHECK.sentence("the query is empty then");
        HelpFile file = Use.opened("#a\n!k\nk");
        keyword(file, "k", 1);
        CHECK.same("the first sign behind keyword()", file.type('k'), 1);
        CHECK.same("keyword() of that alone", file.keyword(), 1);
        keyword(file, "none", 0);
        CHECK.same("the first sign behind one that isn't there", file.type('k'), 1);
        CHECK.same("search() of that alone", file.search(), 1);
        keyword(file, Use.repeat("k", 40), 0);
        CHECK.same("the first sign behind a full query", file.type('k'), 1);
    }

    /** Keywords bb, bd, bf ..: between any two there is room for one that isn't there. */
    private static String word(int k, boolean isThere) {
        return (char) ('b' + k / 12) + "" + (char) ('b' + k % 12 * 2 + (isThere ? 0 : 1));
    }

    private static void nodesByKeywords() {
        CHECK.sentence("from the root on, in each the last entry whose keyword isn't behind the one"
                + " looked for (none further if there is none)");
        int[] counts = {1, 3, 4, 5, 8, 12, 15, 16, 17, 32, 48, 63, 64, 65, 128, 150};
        int[] rows = {1, 1, 1, 2, 2, 2, 2, 2, 3, 3, 3, 3, 3, 4, 4, 4};
        for (int k = 0; k < counts.length; k++) {
            StringBuilder source = new StringBuilder("#a\n");
            for (int word = 0; word < counts[k]; word++) {
                source.append('!').append(word(word, true)).append('\n');
            }
            int[] looked = {0, 1, 3, 4, 15, 16, 62, 63, 64, counts[k] - 1};
            HelpFile file = Use.opened(source.toString());
            for (int word : looked) {
                boolean isThere = word < counts[k];
                visited(file, word(word, true), isThere ? 1 : 0, rows[k]);
                visited(file, word(word, false), 0, rows[k]);
            }
            visited(file, "ba", 0, 1);
            visited(file, "b", 0, 1);
            visited(file, "a", 0, 1);
            visited(file, "azzzzzzzzzzzzzzz", 0, 1);
            visited(file, "", 0, 1);
            visited(file, "bba", 0, rows[k]);
            visited(file, "zzzzzzzzz", 0, rows[k]);
        }
    }

    private static void visited(HelpFile file, String query, int due, int nodes) {
        keyword(file, query, due);
        CHECK.same("visited() behind <" + query + ">", file.visited(), nodes);
    }

    private static void noNodes() {
        CHECK.sentence("(0 before any, or without keywords)");
        HelpFile file = Use.opened("#a\n!k");
        CHECK.same("before any", file.visited(), 0);
        Use.search(file, "k");
        CHECK.same("behind a search alone", file.visited(), 0);
        visited(file, "k", 1, 1);
        HelpFile without = Use.opened("#a\nk");
        visited(without, "k", 0, 0);
        visited(without, "", 0, 0);
        visited(without, "a", 0, 0);
    }

    private static void latestKeyword() {
        CHECK.sentence("How many nodes of the tree the latest keyword() went to");
        HelpFile file = Use.opened("#a\n!b\n!c\n!d\n!e\n!f");
        visited(file, "f", 1, 2);
        CHECK.same("asked again", file.visited(), 2);
        visited(file, "a", 0, 1);
        visited(file, "b", 1, 2);
        Use.search(file, "b");
        CHECK.same("behind a search", file.visited(), 2);
        file.end(2);
        file.compile();
        CHECK.same("behind compile()", file.visited(), 2);
        file.open();
        CHECK.same("behind open()", file.visited(), 2);
        visited(file, "b", 0, 0);
    }

    private static void found(String source, String query, int due) {
        CHECK.same("search() of <" + query + ">", Use.search(Use.opened(source), query), due);
    }

    private static void wrongAt(String query, int place) {
        found("#a\nx", query, -1 - place);
    }

    private static void wordsOfAQuery() {
        CHECK.sentence("a word (letters, as words above)");
        found("#a\nword\n#b\nWORD\n#c\nwor d\n#d\nwords", "word", 3);
        found("#a\nword\n#b\nWORD\n#c\nwor d\n#d\nwords", "WoRd", 3);
        found("#a\nazAZ", "AzaZ", 1);
        found("#a\nx [b]\n#b", "b", 0);
        found("#a\n!k\nx", "k", 0);
        found("#a\nx", "a", 0);
        found("#a\nx1y*z*", "x&y&z", 1);
        CHECK.sentence("The topics that the query finds, a bit each");
        String ten = Use.topics(10);
        found(ten + "x", "x", 512);
        found(ten + "x", "!x", 511);
        found(ten, "!x", 1023);
        found(ten, "x", 0);
        found(ten.replace("\n", "\nx\n"), "x", 1023);
        found("#a", "x", 0);
        found("#a", "!x", 1);
    }

    private static void twelveLetters() {
        CHECK.sentence("of words longer than twelve the first twelve");
        String source = "#a\nabcdefghijk\n#b\nabcdefghijkl\n#c\nabcdefghijklm\n#d\nabcdefghijkm";
        found(source, "abcdefghijk", 1);
        found(source, "abcdefghijkl", 6);
        found(source, "abcdefghijklm", 6);
        found(source, "abcdefghijklzzzzzzzzzzzzzzzzzzzzzzzzzzzz", 6);
        found(source, "abcdefghijkm", 8);
        found(source, "abcdefghijkmzz", 8);
        found(source, "abcdefghijkn", 0);
    }

    private static void conditions() {
        CHECK.sentence("It finds the topics that have a word, both, one, not.");
        found(FOUR, "a", 10);
        found(FOUR, "b", 12);
        found(FOUR, "a&b", 8);
        found(FOUR, "a|b", 14);
        found(FOUR, "!a", 5);
        found(FOUR, "!!a", 10);
        found(FOUR, "!!!a", 5);
        found(FOUR, "(a)", 10);
        found(FOUR, "!(a)", 5);
        found(FOUR, "a&!a", 0);
        found(FOUR, "a|!a", 15);
        found(FOUR, "zero", 1);
    }

    private static void ranks() {
        CHECK.sentence("alternatives, | between them; an alternative: conditions, & between them; a"
                + " condition: a word (letters, as words above), or ! and a condition, or ( a query ).");
        found(FOUR, "zero|a&b", 9);
        found(FOUR, "a&b|zero", 9);
        found(FOUR, "(zero|a)&b", 8);
        found(FOUR, "b&(a|zero)", 8);
        found(FOUR, "!a&b", 4);
        found(FOUR, "!(a&b)", 7);
        found(FOUR, "!a|b", 13);
        found(FOUR, "!(a|b)", 1);
        found(FOUR, "a&b&zero", 0);
        found(FOUR, "a|b|zero", 15);
        found(FOUR, "zero|a&!b|b&!a", 7);
        found(FOUR, "!((a|!b)&!(a&b))", 12);
    }

    private static void blanksBetween() {
        CHECK.sentence("Blanks may stand between.");
        found(FOUR, "a & b", 8);
        found(FOUR, "a   |   b", 14);
        found(FOUR, "! a", 5);
        found(FOUR, "! ! a", 10);
        found(FOUR, "( a )", 10);
        found(FOUR, "! ( a | b ) & ! zero", 0);
        found(FOUR, "! (  a )  |b", 13);
        found(FOUR, " a", 10);
        found(FOUR, "a ", 10);
        found(FOUR, Use.repeat(" ", 39) + "a", 10);
        found(FOUR, "a" + Use.repeat(" ", 39), 10);
        wrongAt("ze ro", 3);
        wrongAt("x x", 2);
    }

    private static void everyFirstSign() {
        CHECK.sentence("-1 and as much less as the place of the first sign with which no query could"
                + " go on");
        String[] ahead = {"", " ", "!", "! ", "(", "( ", "x&", "x& ", "x|", "(x|", "!(", "(x)&", "((!"};
        for (String start : ahead) {
            for (char sign = 32; sign <= 126; sign++) {
                String query = start + sign;
                if (sign == ' ' || sign == '!' || sign == '(' || isLetter(sign) && start.contains("(")
                        && !start.contains(")")) {
                    wrongAt(query, query.length());
                } else if (!isLetter(sign)) {
                    wrongAt(query, start.length());
                }
            }
        }
        for (char sign = 32; sign <= 126; sign++) {
            if (isLetter(sign)) {
                found("#a\nq", "" + sign, (sign | 32) == 'q' ? 1 : 0);
            }
        }
    }

    private static void everySignBehind() {
        CHECK.sentence("-1 and as much less as the place of the first sign with which no query could"
                + " go on");
        String[] ahead = {"x", "x ", "!x", "(x)", "(x) ", "x&x", "x|(x)", "(x", "(x ", "((x)", "!(x&x"};
        for (String start : ahead) {
            boolean isInside = start.replace("(", "").length() < start.replace(")", "").length();
            for (char sign = 32; sign <= 126; sign++) {
                String query = start + sign;
                boolean goesOnAWord = isLetter(sign) && start.endsWith("x");
                boolean goesOn = sign == ' ' || sign == '&' || sign == '|' || goesOnAWord;
                if (goesOn && (isInside || sign == '&' || sign == '|')) {
                    wrongAt(query, query.length());
                } else if (!goesOn && !(sign == ')' && isInside)) {
                    wrongAt(query, start.length());
                }
            }
        }
        found("#a\nx", "(x)", 1);
        found("#a\nx", "(x )", 1);
        found("#a\nx", "((x))", 1);
        found("#a\nx", "!(x&x)", 0);
    }

    private static void everyPlace() {
        CHECK.sentence("-1 and as much less as the place of the first sign with which no query could"
                + " go on (the end is one, too)");
        for (int place = 0; place <= 40; place++) {
            wrongAt(Use.repeat(" ", place), place);
            wrongAt(Use.repeat("!", place), place);
            wrongAt(Use.repeat("(", place), place);
            if (place < 40) {
                wrongAt(Use.repeat(" ", place) + "&", place);
                wrongAt(Use.repeat("(", place) + ")", place);
                wrongAt(Use.repeat("!", place) + "1" + Use.repeat("x", 39 - place), place);
            }
            if (place > 0 && place < 40) {
                wrongAt(Use.repeat("x", place) + "1" + Use.repeat("(", 39 - place), place);
                wrongAt(Use.repeat("x", place) + "&", place + 1);
            }
        }
        found("#a\n" + Use.repeat("x", 12), Use.repeat("x", 40), 1);
        found("#a\nx", Use.repeat("!", 39) + "x", 0);
        found("#a\nx", Use.repeat("x&", 19) + "x", 1);
        wrongAt(Use.repeat("x&", 20), 40);
        wrongAt(Use.repeat("x|", 20), 40);
    }

    private static void parentheses() {
        CHECK.sentence("or ( a query )");
        for (int depth = 0; depth <= 19; depth++) {
            String open = Use.repeat("(", depth);
            String close = Use.repeat(")", depth);
            found("#a\nx\n#b", open + "x" + close, 1);
            wrongAt(open + "x" + close + ")", 2 * depth + 1);
            wrongAt("(" + open + "x" + close, 2 * depth + 2);
        }
        wrongAt("()", 1);
        wrongAt("(())", 2);
        wrongAt("x()", 1);
        wrongAt("(x)(x)", 3);
        found(FOUR, Use.repeat("!(", 12) + "a" + Use.repeat(")", 12), 10);
        found(FOUR, Use.repeat("!(", 13) + "a" + Use.repeat(")", 13), 5);
        found(FOUR, "(a|b)&(a|zero)", 10);
        found(FOUR, "((a)|((b)))&!((a)&((b)))", 6);
    }

    private static void searchEmptiesTheQuery() {
        CHECK.sentence("the query is empty then");
        HelpFile file = Use.opened("#a\nx");
        String[] queries = {"x", "none", "x)", "", "(", Use.repeat(" ", 40)};
        int[] due = {1, 0, -2, -1, -2, -41};
        for (int k = 0; k < queries.length; k++) {
            CHECK.same("search() of <" + queries[k] + ">", Use.search(file, queries[k]), due[k]);
            CHECK.same("the first sign behind it", file.type('x'), 1);
            CHECK.same("search() of that alone", file.search(), 1);
        }
        CHECK.same("search() of nothing", file.search(), -1);
    }

    /** What a query that broke off has left must not reach the next one. */
    private static void searchesAreApart() {
        CHECK.sentence("the query is empty then");
        String[] brokenOff = {"!", "(!", "((!", "a&!", "a|!", "!(", "!((!(", "a&", "a|", "(a|(b&", "!a)"};
        String[] next = {"a", "(a)", "((a))", "(((a)))", "!a", "(!a)"};
        int[] due = {10, 10, 10, 10, 5, 5};
        for (String broken : brokenOff) {
            HelpFile file = Use.opened(FOUR);
            for (int k = 0; k < next.length; k++) {
                CHECK.yes("search() of " + broken, Use.search(file, broken) < 0);
                CHECK.same("search() of " + next[k] + " behind it", Use.search(file, next[k]), due[k]);
                CHECK.same("and of nothing behind that", file.search(), -1);
            }
        }
    }
}

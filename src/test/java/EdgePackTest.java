/** Promise 4 at its edges: how bodies are packed, and which words they have. */
public final class EdgePackTest {
    private static final Check CHECK = new Check();

    public static void main(String[] args) {
        nothingToPack();
        plainPieces();
        fullPlainPieces();
        plainBehindOthers();
        threeAtLeast();
        sixtyThreeAtMost();
        nearestDistance();
        farthestDistance();
        overlapping();
        longestIsTaken();
        nearestOfSeveral();
        fromTheFirstByteOn();
        eachBodyAlone();
        marksArePackedToo();
        rowsOfLetters();
        capitals();
        twelveLetters();
        CHECK.finish("EdgePackTest");
    }

    private static void packed(String text, String due) {
        CHECK.same("packed, " + text.replace("\n", "/"), Use.packed("#a\n" + text, 0), due);
    }

    private static void nothingToPack() {
        CHECK.sentence("PACKED a body is a row of pieces");
        packed("", "");
        packed(" \n \n", "");
        packed("x", "1 120 10");
    }

    private static void plainPieces() {
        CHECK.sentence("a byte n, 0 .. 127, and n + 1 bytes as they are");
        packed("aaaa", "0 97 128 1 0 10");
        packed("ab", "2 97 98 10");
        int[] lengths = {3, 100, 126, 127};
        for (int length : lengths) {
            int[] image = Use.image("#a\n" + Use.different(length));
            CHECK.same("n for " + (length + 1) + " bytes", image[12], length);
            CHECK.same("packed length", image[10], length + 2);
            for (int k = 0; k < length; k++) {
                CHECK.same("byte " + k, image[13 + k], Use.different(length).charAt(k));
            }
            CHECK.same("the last byte", image[13 + length], 10);
        }
    }

    private static void fullPlainPieces() {
        CHECK.sentence("into the piece of such before it, if that has fewer than 128");
        for (int length = 126; length <= 130; length++) {
            int bytes = length + 1;
            int[] image = Use.image("#a\n" + Use.different(length));
            CHECK.same("n of the first piece of " + bytes, image[12], Math.min(bytes, 128) - 1);
            CHECK.same("packed length of " + bytes, image[10], bytes + (bytes > 128 ? 2 : 1));
            if (bytes > 128) {
                CHECK.same("n of the second piece", image[12 + 129], bytes - 129);
            }
        }
        int[] image = Use.image("#a\n" + Use.different(254));
        CHECK.same("n of the first of 255 bytes", image[12], 127);
        CHECK.same("n of the second of 255 bytes", image[141], 126);
        CHECK.same("packed length of 255 bytes", image[10] + 256 * image[11], 257);
    }

    private static void plainBehindOthers() {
        CHECK.sentence("(and no other piece came between)");
        packed("abcabcd", "2 97 98 99 128 3 1 100 10");
        packed("abcabc", "2 97 98 99 128 3 0 10");
        packed("abc1abc2abc3", "3 97 98 99 49 128 4 0 50 128 4 1 51 10");
        String first = Use.different(127) + "x";
        int[] image = Use.image("#a\n" + first + first.substring(0, 3) + "yz");
        CHECK.same("a full piece", image[12], 127);
        CHECK.same("then three bytes again", Use.told(image, 141, 143), "128 128");
        CHECK.same("then a new piece", Use.told(image, 143, 147), "2 121 122 10");
        image = Use.image("#a\n" + first + "y" + first.substring(0, 3) + "z");
        CHECK.same("a piece of one behind a full one", Use.told(image, 141, 143), "0 121");
        CHECK.same("three bytes, 129 ahead", Use.told(image, 143, 145), "128 129");
        CHECK.same("a new piece behind", Use.told(image, 145, 148), "1 122 10");
    }

    private static void threeAtLeast() {
        CHECK.sentence("the longest row of 3 to 63 bytes that stands as well beginning at an"
                + " earlier byte of the body");
        packed("ab1ab2", "6 97 98 49 97 98 50 10");
        packed("abc1abc2", "3 97 98 99 49 128 4 1 50 10");
        packed("abcd1abcd2", "4 97 98 99 100 49 129 5 1 50 10");
        packed("aa", "2 97 97 10");
        packed("aaa", "3 97 97 97 10");
        packed("aaaa", "0 97 128 1 0 10");
        packed("aaaaa", "0 97 129 1 0 10");
        packed("ab\n\nab", "2 97 98 10 128 3");
        packed("a\n\na", "3 97 10 97 10");
    }

    private static void sixtyThreeAtMost() {
        CHECK.sentence("or a byte 128 + n, n 0 .. 60, and a byte d, 1 .. 255: n + 3 bytes, each"
                + " like the one d ahead of it");
        packed(Use.repeat("a", 63), "0 97 187 1 0 10");
        packed(Use.repeat("a", 64), "0 97 188 1 0 10");
        packed(Use.repeat("a", 65), "0 97 188 1 1 97 10");
        packed(Use.repeat("a", 66), "0 97 188 1 2 97 97 10");
        packed(Use.repeat("a", 67), "0 97 188 1 128 1 0 10");
        packed(Use.repeat("a", 127), "0 97 188 1 188 1 0 10");
        packed(Use.repeat("a", 128), "0 97 188 1 188 1 1 97 10");
        packed(Use.repeat("a", 254), "0 97 188 1 188 1 188 1 188 1 1 97 10");
        rowAgain(62, "187 65 0 10");
        rowAgain(63, "188 66 0 10");
        rowAgain(64, "188 67 1 49 10");
        rowAgain(65, "188 68 2 49 45 10");
        rowAgain(66, "188 69 128 69 0 10");
    }

    /** A row of signs, three others, and the row again: what is behind the first plain piece. */
    private static void rowAgain(int length, String due) {
        String row = Use.different(length);
        int[] image = Use.image("#a\n" + row + "abc" + row);
        int start = 12 + 1 + length + 3;
        CHECK.same("a row of " + length + " again",
                Use.told(image, start, Use.packedStart(image, 1)), due);
    }

    private static void nearestDistance() {
        CHECK.sentence("a byte d, 1 .. 255");
        packed("1111", "0 49 128 1 0 10");
        packed("121212", "1 49 50 129 2 0 10");
        packed("123123", "2 49 50 51 128 3 0 10");
    }

    /** No body has two rows of three bytes farther apart than 252. */
    private static void farthestDistance() {
        CHECK.sentence("at most 255 ahead (it may overlap)");
        for (int between = 240; between <= 249; between++) {
            int[] image = Use.image("#a\nab\n\n" + Use.different(between) + "ab");
            int end = Use.packedStart(image, 1);
            CHECK.same("three bytes, " + (between + 3) + " ahead", Use.told(image, end - 2, end),
                    "128 " + (between + 3));
            CHECK.same("the body's length", image[8], between + 6);
        }
    }

    private static void overlapping() {
        CHECK.sentence("at most 255 ahead (it may overlap)");
        packed("ababababab", "1 97 98 133 2 0 10");
        packed("abcabcab", "2 97 98 99 130 3 0 10");
        packed("abcabca", "2 97 98 99 129 3 0 10");
        packed("xaaaa", "1 120 97 128 1 0 10");
    }

    private static void longestIsTaken() {
        CHECK.sentence("the longest row of 3 to 63 bytes that stands as well beginning at an"
                + " earlier byte of the body");
        packed("abcd1abc2abcd3", "4 97 98 99 100 49 128 5 0 50 129 9 1 51 10");
        packed("abc1abcd2abcd3", "3 97 98 99 49 128 4 1 100 50 129 5 1 51 10");
        packed("abcde1abcd2abc3abcde4", "5 97 98 99 100 101 49 129 6 0 50 128 5 0 51 130 15 1 52 10");
    }

    private static void nearestOfSeveral() {
        CHECK.sentence("is taken, of several the nearest");
        packed("abc1abc2abc3", "3 97 98 99 49 128 4 0 50 128 4 1 51 10");
        packed("aaaaaaaaaa", "0 97 134 1 0 10");
        packed("abc1abc2abd3abc", "3 97 98 99 49 128 4 4 50 97 98 100 51 128 8 0 10");
    }

    private static void fromTheFirstByteOn() {
        CHECK.sentence("From the first byte on");
        packed("abc1bcdef2abcdef", "9 97 98 99 49 98 99 100 101 102 50 128 10 128 7 0 10");
    }

    private static void eachBodyAlone() {
        CHECK.sentence("beginning at an earlier byte of the body");
        String source = "#a\nabcdef\n#b\nabcdef";
        CHECK.same("the first body", Use.packed(source, 0), "6 97 98 99 100 101 102 10");
        CHECK.same("a second one like it", Use.packed(source, 1), "6 97 98 99 100 101 102 10");
        String goesOn = "#a\nab\n\nab\n#b\nabab";
        CHECK.same("a row that would go on in the next body", Use.packed(goesOn, 0),
                "2 97 98 10 128 3");
        CHECK.same("the next body", Use.packed(goesOn, 1), "4 97 98 97 98 10");
        String same = "#a\n" + Use.repeat("z", 10) + "\n#b\n" + Use.repeat("z", 10);
        CHECK.same("like bytes", Use.packed(same, 0), "0 122 134 1 0 10");
        CHECK.same("like bytes again", Use.packed(same, 1), "0 122 134 1 0 10");
    }

    private static void marksArePackedToo() {
        CHECK.sentence("PACKED a body is a row of pieces");
        packed("[a][a]", "4 2 0 2 0 10");
        packed("[a][a][a]", "1 2 0 129 2 0 10");
        packed("****", "0 1 128 1 0 10");
        packed("x\n\nx\n\nx", "1 120 10 129 2");
    }

    /** The index of a source with one topic and without keywords. */
    private static void words(String text, String due) {
        CHECK.same("the words of " + text.replace("\n", "/"), Use.behindBodies("#a\n" + text),
                "0 " + due);
    }

    private static void rowsOfLetters() {
        CHECK.sentence("WORDS of a body are its longest rows of letters");
        words("", "0 0");
        words("12 - 3", "0 0");
        words("a", "1 0 1 97 1 0");
        words("ab", "1 0 2 97 98 1 0");
        words("ab ba", "2 0 2 97 98 1 0 2 98 97 1 0");
        words("a\nb", "2 0 1 97 1 0 1 98 1 0");
        words("a\n\nb", "2 0 1 97 1 0 1 98 1 0");
        words("a*b*", "2 0 1 97 1 0 1 98 1 0");
        words("a[a]b", "2 0 1 97 1 0 1 98 1 0");
        words("[a]", "0 0");
        for (char sign = 33; sign <= 126; sign++) {
            boolean isLetter = sign >= 'a' && sign <= 'z' || sign >= 'A' && sign <= 'Z';
            if (sign != '*' && sign != '[' && sign != ']' && !isLetter) {
                words("a" + sign + "b", "2 0 1 97 1 0 1 98 1 0");
                words(" " + sign, "0 0");
            }
        }
        CHECK.same("names and keywords are no words", Use.behindBodies("#word\n!key"),
                "1 1 3 107 101 121 1 0 0 0");
    }

    private static void capitals() {
        CHECK.sentence("capital ones as small ones");
        for (char small = 'a'; small <= 'z'; small++) {
            char capital = (char) (small - 32);
            words("" + capital, "1 0 1 " + (int) small + " 1 0");
            words(small + " " + capital, "1 0 1 " + (int) small + " 1 0");
        }
        words("aZ Az AZ", "1 0 2 97 122 1 0");
    }

    private static void twelveLetters() {
        CHECK.sentence("of words longer than twelve the first twelve");
        String twelve = "12 97 98 99 100 101 102 103 104 105 106 107 108";
        words("abcdefghijk", "1 0 11 97 98 99 100 101 102 103 104 105 106 107 1 0");
        words("abcdefghijkl", "1 0 " + twelve + " 1 0");
        words("abcdefghijklm", "1 0 " + twelve + " 1 0");
        words("ABCDEFGHIJKLMNOPQRSTUVWXYZ", "1 0 " + twelve + " 1 0");
        words("abcdefghijklm abcdefghijkln abcdefghijkl", "1 0 " + twelve + " 1 0");
        words("abcdefghijklmnop mnop", "2 0 " + twelve + " 1 0 4 109 110 111 112 1 0");
        words("abcdefghijkl abcdefghijkm", "2 0 " + twelve + " 1 0 " + twelve.replace("108", "109")
                + " 1 0");
        words(Use.repeat("z", 254), "1 0 12" + Use.repeat(" 122", 12) + " 1 0");
    }
}

/** Promises 4 and 5: what compile() answers, and the line of the fault. */
public final class FaultTest {
    private static final Check CHECK = new Check();

    public static void main(String[] args) {
        textAhead();
        headings();
        keywords();
        links();
        emphasis();
        targets();
        lengths();
        imageStays();
        CHECK.finish("FaultTest");
    }

    private static void fault(String source, int kind, int line) {
        HelpFile file = Use.withSource(source);
        String told = source.replace("\n", "/");
        CHECK.same("before compile, line() of " + told, file.line(), -1);
        CHECK.same("compile() of " + told, file.compile(), kind);
        CHECK.same("line() of " + told, file.line(), line);
        CHECK.yes("an image only without a fault: " + told, kind == 0 == file.at(-1) > 0);
    }

    private static void textAhead() {
        fault("", 10, 0);
        fault(" \n\n   \n", 10, 0);
        fault("x", 1, 0);
        fault("\n  \n x\n#a", 1, 2);
        fault("!a\n#a", 1, 0);
        fault("\n!\n#a", 1, 1);
        fault("!Wrong one\n#a", 1, 0);
        fault(" !a\n#a", 1, 0);
        fault(" #a\n", 1, 0);
        fault("]\n#a", 1, 0);
        fault("[a]\n#a", 1, 0);
        fault("**\n#a", 1, 0);
        fault("\n \n#a", 0, -1);
    }

    private static void headings() {
        fault("#", 2, 0);
        fault("#a", 0, -1);
        fault("#abcdef", 0, -1);
        fault("#abcdefg", 2, 0);
        fault("#a ", 2, 0);
        fault("# a", 2, 0);
        fault("#A", 2, 0);
        fault("#a1", 2, 0);
        fault("##a", 2, 0);
        fault("#a\n##", 2, 1);
        fault("#a\n#a", 4, 1);
        fault("#a\n#ab\n#b\n\n#ab", 4, 4);
        String ten = "#a\n#b\n#c\n#d\n#e\n#f\n#g\n#h\n#i\n#j\n";
        fault(ten, 0, -1);
        fault(ten + "#k", 5, 10);
        fault(ten + "#a", 4, 10);
        fault(ten + "#", 2, 10);
        fault(ten + "#aA", 2, 10);
        fault(ten + "\nx *y\n#k", 7, 11);
    }

    private static void keywords() {
        fault("#a\n!b", 0, -1);
        fault("#a\n!abcdefgh", 0, -1);
        fault("#a\n!abcdefghi", 3, 1);
        fault("#a\n!", 3, 1);
        fault("#a\n! b", 3, 1);
        fault("#a\n!b ", 3, 1);
        fault("#a\n!B", 3, 1);
        fault("#a\n!b!", 3, 1);
        fault("#a\n!b\n!b\n!b", 0, -1);
        fault("#a\n !b c", 0, -1);
        fault("#a\nx\n!9\n!8", 3, 2);
    }

    private static void links() {
        fault("#a\n[a]", 0, -1);
        fault("#a\n[]", 6, 1);
        fault("#a\n[", 6, 1);
        fault("#a\n]", 6, 1);
        fault("#a\n[a", 6, 1);
        fault("#a\n[a\n]", 6, 1);
        fault("#a\nx\n[a ]", 6, 2);
        fault("#a\n[A]", 6, 1);
        fault("#a\n[a*]", 6, 1);
        fault("#a\n[[a]]", 6, 1);
        fault("#a\n[a[a]", 6, 1);
        fault("#a\n[a]]", 6, 1);
        fault("#a\n[abcdefg]", 6, 1);
        fault("#abcdef\n[abcdef]", 0, -1);
        fault("#a\nx [a][a]x", 0, -1);
        fault("#a\n[b]\n]", 6, 2);
    }

    private static void emphasis() {
        fault("#a\n*x*", 0, -1);
        fault("#a\n*x", 7, 1);
        fault("#a\n*\nx\ny*", 0, -1);
        fault("#a\n*\nx\ny", 7, 3);
        fault("#a\n*x\n\n*", 7, 1);
        fault("#a\n*x\n   \n*", 7, 1);
        fault("#a\n*x\n#b\n*", 7, 1);
        fault("#a\n*x\n!b\n*", 7, 1);
        fault("#a\n*x\n#B", 7, 1);
        fault("#a\n*x\n!B", 7, 1);
        fault("#a\n*x\n#a", 7, 1);
        fault("#a\n*x\ny ]", 6, 2);
        fault("#a\n*x\n\n]", 7, 1);
        fault("#a\n***", 7, 1);
        fault("#a\n****", 0, -1);
        fault("#a\n*x\n\n\n\n", 7, 1);
    }

    private static void targets() {
        fault("#a\n[b]\n#b", 0, -1);
        fault("#a\nx\n[b] [c]\n#b", 8, 2);
        fault("#a\n[z]\n[y]", 8, 1);
        fault("#a\n[b]\n#A", 2, 2);
        fault("#a\n[b]\n\n*x", 7, 3);
        fault("#a\n [ab] \n#aa", 8, 1);
    }

    private static void lengths() {
        String long254 = Use.repeat("abc ef", 42) + "xy";
        fault("#a\n" + long254, 0, -1);
        fault("#a\n" + long254 + "x", 9, 0);
        fault("#a\n" + long254 + "    \n\n  ", 0, -1);
        fault("\n#a\nx\n#b\n" + long254 + "x\n#c\n" + long254 + "x", 9, 3);
        fault("#a\n" + long254 + "x\n#b\n[c]", 8, 3);
        fault("#a\n" + long254 + "x\n#b\n!C", 3, 3);
        fault("#a\n" + Use.repeat("[a]", 127), 0, -1);
        fault("#a\n" + Use.repeat("[a]", 127) + "x", 9, 0);
        fault("#a\n" + Use.repeat("x\n\n", 127), 0, -1);
        fault("#a\n" + Use.repeat("x\n\n", 128), 9, 0);
    }

    private static void imageStays() {
        HelpFile file = Use.compiled("#abc");
        int length = file.at(-1);
        Use.feed(file, "\n]");
        CHECK.same("compile with a fault", file.compile(), 6);
        CHECK.same("line of the fault", file.line(), 1);
        CHECK.same("the image stays", file.at(-1), length);
        CHECK.yes("and can be opened", file.open());
        file.end(4);
        CHECK.same("compile without a fault", file.compile(), 0);
        CHECK.same("no line any more", file.line(), -1);
        CHECK.fails("put wrong", IllegalArgumentException.class, () -> file.put(1));
        CHECK.same("line() after a throw", file.line(), -1);
        file.end(1);
        CHECK.same("compile of # alone", file.compile(), 2);
        CHECK.same("line 0", file.line(), 0);
    }
}

/** Whole texts for calls that take a few signs at a time. */
final class Use {
    /** No object is used for more calls than the document allows. */
    private static final int READS_PER_OBJECT = 300;

    private Use() {
    }

    static void feed(HelpFile file, String text) {
        for (int k = 0; k < text.length(); k += 4) {
            int signs = 0;
            for (int j = 0; j < 4 && k + j < text.length(); j++) {
                signs |= text.charAt(k + j) << (8 * j);
            }
            file.put(signs);
        }
    }

    static HelpFile withSource(String source) {
        HelpFile file = new HelpFile();
        feed(file, source);
        return file;
    }

    static HelpFile compiled(String source) {
        HelpFile file = withSource(source);
        int fault = file.compile();
        if (fault != 0) {
            throw new AssertionError("fault " + fault + " in line " + file.line() + " of " + source);
        }
        return file;
    }

    static HelpFile opened(String source) {
        HelpFile file = compiled(source);
        if (!file.open()) {
            throw new AssertionError("not sound: " + source);
        }
        return file;
    }

    static int[] image(String source) {
        HelpFile file = compiled(source);
        int[] image = new int[file.at(-1)];
        for (int k = 0; k < image.length; k++) {
            if (k > 0 && k % READS_PER_OBJECT == 0) {
                file = compiled(source);
            }
            image[k] = file.at(k);
        }
        return image;
    }

    static void type(HelpFile file, String query) {
        for (int k = 0; k < query.length(); k++) {
            file.type(query.charAt(k));
        }
    }

    static int search(HelpFile file, String query) {
        type(file, query);
        return file.search();
    }

    static int keyword(HelpFile file, String query) {
        type(file, query);
        return file.keyword();
    }

    /** A shown line, read until its end or the width. */
    static String shownLine(HelpFile file, int line, int width) {
        StringBuilder text = new StringBuilder();
        for (int place = 0; place < width; place++) {
            int sign = file.sign(line, place);
            if (sign == 0) {
                break;
            }
            text.append((char) sign);
        }
        return text.toString();
    }

    /** All lines of a topic in a width, a / behind each. */
    static String shown(HelpFile file, int width) {
        int lines = file.show(width);
        StringBuilder text = new StringBuilder();
        for (int line = 0; line < lines; line++) {
            text.append(shownLine(file, line, width)).append('/');
        }
        return text.toString();
    }

    /** Spoils a byte and mends the sum at the image's end. */
    static void spoilAndMend(HelpFile file, int k, int b) {
        int length = file.at(-1);
        int before = file.spoil(k, b);
        int sum = file.at(length - 2) + 256 * file.at(length - 1) + file.at(k) - before;
        file.spoil(length - 2, sum);
        file.spoil(length - 1, sum >> 8);
    }

    static String repeat(String text, int times) {
        StringBuilder all = new StringBuilder();
        for (int k = 0; k < times; k++) {
            all.append(text);
        }
        return all.toString();
    }
}

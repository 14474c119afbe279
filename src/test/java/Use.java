import java.util.HashMap;
import java.util.Map;

/** Whole texts for calls that take a few signs at a time. */
final class Use {
    /** No object is used for more calls than the document allows. */
    private static final int READS_PER_OBJECT = 300;
    /** Sources by the length of their images, as they have been found, and these images. */
    private static final Map<Integer, String> SOURCES = new HashMap<>();
    private static final Map<Integer, int[]> IMAGES = new HashMap<>();

    private Use() {
    }

    static void feed(HelpFile file, String text) {
        for (int k = 0; k < text.length(); k += 4) {
            int signs = 0;
            for (int j = 0; j < 4 && k + j < text.length(); j++) {
                signs |= text.charAt(k + j) << (8 * j);
            }
            file.put(signs);
        }
    }

    static HelpFile withSource(String source) {
        HelpFile file = new HelpFile();
        feed(file, source);
        return file;
    }

    static HelpFile compiled(String source) {
        HelpFile file = withSource(source);
        int fault = file.compile();
        if (fault != 0) {
            throw new AssertionError("fault " + fault + " in line " + file.line() + " of " + source);
        }
        return file;
    }

    static HelpFile opened(String source) {
        HelpFile file = compiled(source);
        if (!file.open()) {
            throw new AssertionError("not sound: " + source);
        }
        return file;
    }

    static int[] image(String source) {
        HelpFile file = compiled(source);
        int[] image = new int[file.at(-1)];
        for (int k = 0; k < image.length; k++) {
            if (k > 0 && k % READS_PER_OBJECT == 0) {
                file = compiled(source);
            }
            image[k] = file.at(k);
        }
        return image;
    }

    static String told(int[] bytes, int start, int finish) {
        StringBuilder text = new StringBuilder();
        for (int k = start; k < finish; k++) {
            text.append(k == start ? "" : " ").append(bytes[k]);
        }
        return text.toString();
    }

    /** Where the packed body of a topic begins; for the number of topics: where the tree begins. */
    static int packedStart(int[] image, int topic) {
        int start = 2 + 10 * image[1];
        for (int k = 0; k < topic; k++) {
            start += image[10 + 10 * k] + 256 * image[11 + 10 * k];
        }
        return start;
    }

    /** The packed body of a topic. */
    static String packed(String source, int topic) {
        int[] image = image(source);
        return told(image, packedStart(image, topic), packedStart(image, topic + 1));
    }

    /** The bytes of the tree and of the index. */
    static String behindBodies(String source) {
        int[] image = image(source);
        return told(image, packedStart(image, image[1]), image.length - 2);
    }

    /** The body of a topic, unpacked. */
    static String body(String source, int topic) {
        int[] image = image(source);
        int[] body = new int[image[8 + 10 * topic] + 256 * image[9 + 10 * topic]];
        int length = 0;
        int k = packedStart(image, topic);
        while (k < packedStart(image, topic + 1)) {
            int head = image[k];
            int bytes = head < 128 ? head + 1 : head - 125;
            for (int j = 0; j < bytes; j++) {
                body[length] = head < 128 ? image[k + 1 + j] : body[length - image[k + 1]];
                length++;
            }
            k += head < 128 ? 1 + bytes : 2;
        }
        return told(body, 0, length);
    }

    /** Topics a, b, c .. with nothing in them, a line each. */
    static String topics(int count) {
        StringBuilder source = new StringBuilder();
        for (int k = 0; k < count; k++) {
            source.append('#').append((char) ('a' + k)).append('\n');
        }
        return source.toString();
    }

    /** So many signs, none of them a letter, in which no row of three stands twice. */
    static String different(int count) {
        StringBuilder text = new StringBuilder();
        for (int k = 0; text.length() < count; k++) {
            text.append((char) ('0' + k % 10)).append((char) ('+' + k / 10 % 5));
            text.append(k < 50 ? '=' : '>');
        }
        return text.substring(0, count);
    }

    static void type(HelpFile file, String query) {
        for (int k = 0; k < query.length(); k++) {
            file.type(query.charAt(k));
        }
    }

    static int search(HelpFile file, String query) {
        type(file, query);
        return file.search();
    }

    static int keyword(HelpFile file, String query) {
        type(file, query);
        return file.keyword();
    }

    /** A shown line, read until its end or the width. */
    static String shownLine(HelpFile file, int line, int width) {
        StringBuilder text = new StringBuilder();
        for (int place = 0; place < width; place++) {
            int sign = file.sign(line, place);
            if (sign == 0) {
                break;
            }
            text.append((char) sign);
        }
        return text.toString();
    }

    /** All lines of a topic in a width, a / behind each. */
    static String shown(HelpFile file, int width) {
        int lines = file.show(width);
        StringBuilder text = new StringBuilder();
        for (int line = 0; line < lines; line++) {
            text.append(shownLine(file, line, width)).append('/');
        }
        return text.toString();
    }

    /** Spoils a byte and mends the sum at the image's end. */
    static void spoilAndMend(HelpFile file, int k, int b) {
        int length = file.at(-1);
        int before = file.spoil(k, b);
        int sum = file.at(length - 2) + 256 * file.at(length - 1) + file.at(k) - before;
        file.spoil(length - 2, sum);
        file.spoil(length - 1, sum >> 8);
    }

    /** An object whose image has been spoilt, byte by byte, until it is this one. */
    static HelpFile turnedInto(int[] image) {
        String source = SOURCES.computeIfAbsent(image.length, Use::sourceOfImage);
        int[] before = IMAGES.computeIfAbsent(image.length, length -> image(source));
        HelpFile file = compiled(source);
        for (int k = 0; k < image.length; k++) {
            if (image[k] != before[k]) {
                file.spoil(k, image[k]);
            }
        }
        return file;
    }

    /** A source whose image has so many bytes: a second topic fills gaps between pieces. */
    private static String sourceOfImage(int length) {
        for (int signs = 0; signs < 500; signs++) {
            int first = Math.min(signs, 250);
            String one = "#a\n" + different(signs);
            String two = "#a\n" + different(first) + "\n#b\n" + different(signs - first);
            for (String source : new String[] {one, two}) {
                HelpFile file = withSource(source);
                if (file.compile() == 0 && file.at(-1) == length) {
                    return source;
                }
            }
        }
        throw new AssertionError("no source has an image of " + length + " bytes");
    }

    /** Makes the last two bytes the sum of those before. */
    static int[] mended(int[] image) {
        int[] bytes = image.clone();
        int sum = 0;
        for (int k = 0; k < bytes.length - 2; k++) {
            sum += bytes[k];
        }
        bytes[bytes.length - 2] = sum % 256;
        bytes[bytes.length - 1] = sum / 256 % 256;
        return bytes;
    }

    static String repeat(String text, int times) {
        StringBuilder all = new StringBuilder();
        for (int k = 0; k < times; k++) {
            all.append(text);
        }
        return all.toString();
    }
}

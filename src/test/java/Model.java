import java.util.ArrayList;
import java.util.Arrays;
import java.util.List;
import java.util.TreeMap;
import java.util.TreeSet;
import java.util.regex.Matcher;
import java.util.regex.Pattern;

/**
 * The document said a second time, in other ways than the program's, with the whole library: what
 * the tests compare the program with on sources and images that are made by chance.
 */
final class Model {
    private static final Pattern LINK = Pattern.compile("\\[([a-z]{1,6})\\]");

    int kind = 0;
    int line = -1;
    final List<String> names = new ArrayList<>();
    final List<String> bodies = new ArrayList<>();
    final TreeMap<String, Integer> keywords = new TreeMap<>();
    int[] image = new int[0];

    private final String[] lines;
    private final List<Integer> headings = new ArrayList<>();

    private Model(String source) {
        lines = source.split("\n", -1);
    }

    static Model of(String source) {
        Model model = new Model(source);
        model.translate();
        return model;
    }

    /** The image of whatever parts, be they those of a source or not. */
    static int[] imageOf(List<String> names, List<String> bodies, TreeMap<String, Integer> keywords) {
        Model model = new Model("");
        model.names.addAll(names);
        model.bodies.addAll(bodies);
        model.keywords.putAll(keywords);
        model.write();
        return model.image;
    }

    // ---- the source

    private void translate() {
        TreeSet<Long> faults = new TreeSet<>();
        StringBuilder paragraph = new StringBuilder();
        List<String[]> texts = new ArrayList<>();
        for (int k = 0; k <= lines.length; k++) {
            String text = k < lines.length ? lines[k] : "";
            boolean isText = !text.isBlank() && !text.startsWith("#") && !text.startsWith("!");
            if (!isText && paragraph.length() > 0) {
                if (stars(paragraph) % 2 == 1) {
                    faults.add(fault(k - 1, 9999, 7));
                }
                texts.add(new String[] {paragraph.toString(), "" + (names.size() - 1)});
                paragraph.setLength(0);
            }
            if (text.startsWith("#")) {
                heading(text, k, faults);
            } else if (text.startsWith("!")) {
                keyword(text, k, faults);
            } else if (isText) {
                text(text, k, faults);
                paragraph.append(text).append(" ");
            }
        }
        if (!faults.isEmpty()) {
            line = (int) (faults.first() / 1000000);
            kind = (int) (faults.first() % 100);
            return;
        }
        lateFaults(texts);
        if (kind == 0) {
            write();
        }
    }

    private static long fault(int line, int column, int kind) {
        return line * 1000000L + column * 100L + kind;
    }

    private static int stars(CharSequence text) {
        return (int) text.chars().filter(c -> c == '*').count();
    }

    private void heading(String text, int k, TreeSet<Long> faults) {
        String name = text.substring(1);
        if (!name.matches("[a-z]{1,6}")) {
            faults.add(fault(k, 0, 2));
        } else if (names.contains(name)) {
            faults.add(fault(k, 0, 4));
        } else if (names.size() == 10) {
            faults.add(fault(k, 0, 5));
        } else {
            names.add(name);
            headings.add(k);
        }
    }

    private void keyword(String text, int k, TreeSet<Long> faults) {
        String word = text.substring(1);
        if (names.isEmpty()) {
            faults.add(fault(k, 0, 1));
        } else if (!word.matches("[a-z]{1,8}")) {
            faults.add(fault(k, 0, 3));
        } else {
            keywords.merge(word, 1 << (names.size() - 1), (a, b) -> a | b);
        }
    }

    private void text(String text, int k, TreeSet<Long> faults) {
        if (names.isEmpty()) {
            faults.add(fault(k, 0, 1));
            return;
        }
        String rest = LINK.matcher(text).replaceAll("");
        if (rest.contains("[") || rest.contains("]")) {
            faults.add(fault(k, 1, 6));
        }
    }

    private void lateFaults(List<String[]> texts) {
        for (int k = 0; k < lines.length; k++) {
            Matcher links = LINK.matcher(lines[k]);
            boolean isText = !lines[k].startsWith("#") && !lines[k].startsWith("!");
            while (isText && kind == 0 && links.find()) {
                if (!names.contains(links.group(1))) {
                    kind = 8;
                    line = k;
                }
            }
        }
        if (kind != 0) {
            return;
        }
        for (int topic = 0; topic < names.size(); topic++) {
            StringBuilder body = new StringBuilder();
            for (String[] text : texts) {
                if (text[1].equals("" + topic)) {
                    body.append(paragraphBody(text[0])).append('\n');
                }
            }
            bodies.add(body.toString());
            if (kind == 0 && body.length() > 255) {
                kind = 9;
                line = headings.get(topic);
            }
        }
        if (names.isEmpty()) {
            kind = 10;
            line = 0;
        }
    }

    private String paragraphBody(String text) {
        String body = text.trim().replaceAll(" +", " ").replace('*', (char) 1);
        for (int topic = 0; topic < names.size(); topic++) {
            body = body.replace("[" + names.get(topic) + "]", "\2" + (char) topic);
        }
        return body;
    }

    // ---- the image

    private void write() {
        List<Integer> out = new ArrayList<>(List.of(72, names.size()));
        List<Integer> packed = new ArrayList<>();
        for (int topic = 0; topic < names.size(); topic++) {
            for (int k = 0; k < 6; k++) {
                String name = names.get(topic);
                out.add(k < name.length() ? (int) name.charAt(k) : 0);
            }
            List<Integer> pieces = pack(bodies.get(topic));
            packed.addAll(pieces);
            pair(out, bodies.get(topic).length());
            pair(out, pieces.size());
        }
        out.addAll(packed);
        tree(out);
        index(out);
        pair(out, out.stream().mapToInt(b -> b).sum());
        image = out.stream().mapToInt(b -> b).toArray();
    }

    private static void pair(List<Integer> out, int number) {
        out.add(number % 256);
        out.add(number / 256 % 256);
    }

    private static void word(List<Integer> out, String word) {
        out.add(word.length());
        word.chars().forEach(out::add);
    }

    static List<Integer> pack(String body) {
        List<Integer> out = new ArrayList<>();
        StringBuilder plain = new StringBuilder();
        int k = 0;
        while (k < body.length()) {
            int length = Math.min(63, body.length() - k);
            int from = -1;
            for (; length >= 3 && from < 0; length--) {
                from = k == 0 ? -1 : body.lastIndexOf(body.substring(k, k + length), k - 1);
            }
            length++;
            if (from < 0) {
                plain.append(body.charAt(k));
                k++;
            } else {
                flush(out, plain);
                out.add(128 + length - 3);
                out.add(k - from);
                k += length;
            }
        }
        flush(out, plain);
        return out;
    }

    private static void flush(List<Integer> out, StringBuilder plain) {
        for (int k = 0; k < plain.length(); k += 128) {
            String piece = plain.substring(k, Math.min(k + 128, plain.length()));
            out.add(piece.length() - 1);
            piece.chars().forEach(out::add);
        }
        plain.setLength(0);
    }

    /** A node with its first keyword and its children, or without children its keywords. */
    private static final class Node {
        int number;
        final List<Node> children = new ArrayList<>();
        final List<String> words = new ArrayList<>();

        String first() {
            return children.isEmpty() ? words.get(0) : children.get(0).first();
        }
    }

    private List<Node> nodes() {
        List<Node> all = new ArrayList<>();
        List<Node> row = new ArrayList<>();
        for (String word : keywords.keySet()) {
            if (row.isEmpty() || row.get(row.size() - 1).words.size() == 4) {
                row.add(new Node());
            }
            row.get(row.size() - 1).words.add(word);
        }
        while (!row.isEmpty()) {
            for (Node node : row) {
                node.number = all.size();
                all.add(node);
            }
            List<Node> above = new ArrayList<>();
            for (int k = 0; k < row.size() && row.size() > 1; k++) {
                if (k % 4 == 0) {
                    above.add(new Node());
                }
                above.get(k / 4).children.add(row.get(k));
            }
            row = above;
        }
        return all;
    }

    private void tree(List<Integer> out) {
        List<Node> nodes = nodes();
        out.add(nodes.size());
        for (Node node : nodes) {
            out.add(node.children.size() + node.words.size());
            for (Node child : node.children) {
                out.add(child.number);
                word(out, child.first());
            }
            for (String word : node.words) {
                word(out, word);
                pair(out, keywords.get(word));
            }
        }
    }

    int visited(String letters) {
        List<Node> nodes = nodes();
        Node node = nodes.isEmpty() ? null : nodes.get(nodes.size() - 1);
        int visited = 0;
        while (node != null) {
            visited++;
            Node next = null;
            for (Node child : node.children) {
                if (child.first().compareTo(letters) <= 0) {
                    next = child;
                }
            }
            node = next;
        }
        return visited;
    }

    TreeSet<String> words(int topic) {
        TreeSet<String> words = new TreeSet<>();
        for (String word : bodies.get(topic).toLowerCase().split("[^a-z]+")) {
            if (!word.isEmpty()) {
                words.add(word.substring(0, Math.min(12, word.length())));
            }
        }
        return words;
    }

    private void index(List<Integer> out) {
        TreeMap<String, List<Integer>> all = new TreeMap<>();
        for (int topic = 0; topic < names.size(); topic++) {
            for (String word : words(topic)) {
                all.computeIfAbsent(word, w -> new ArrayList<>()).add(topic);
            }
        }
        pair(out, all.size());
        for (String word : all.keySet()) {
            List<Integer> topics = all.get(word);
            word(out, word);
            out.add(topics.size());
            for (int k = 0; k < topics.size(); k++) {
                out.add(topics.get(k) - (k == 0 ? 0 : topics.get(k - 1)));
            }
        }
    }

    // ---- whether an image is sound: by the very source that would have to be its own

    static boolean isSound(int[] image) {
        return ofImage(image) != null;
    }

    /** What an image holds; null if it isn't sound. */
    static Model ofImage(int[] image) {
        try {
            String source = sourceOf(image);
            Model model = Model.of(source);
            boolean isSound = source.matches("[ -~\n]*") && model.kind == 0
                    && model.keywords.size() <= 250 && Arrays.equals(model.image, image);
            return isSound ? model : null;
        } catch (IndexOutOfBoundsException e) {
            return null;
        }
    }

    private static String sourceOf(int[] image) {
        int topics = image[1];
        List<String> names = new ArrayList<>();
        List<String> bodies = new ArrayList<>();
        int place = 2 + 10 * topics;
        for (int topic = 0; topic < topics; topic++) {
            StringBuilder name = new StringBuilder();
            for (int k = 0; k < 6 && image[2 + 10 * topic + k] != 0; k++) {
                name.append((char) image[2 + 10 * topic + k]);
            }
            names.add(name.toString());
            int packed = image[10 + 10 * topic] + 256 * image[11 + 10 * topic];
            bodies.add(unpack(image, place, place + packed));
            place += packed;
        }
        List<String> keywords = new ArrayList<>();
        List<Integer> having = new ArrayList<>();
        leaves(image, place, keywords, having);
        StringBuilder source = new StringBuilder();
        for (int topic = 0; topic < topics; topic++) {
            source.append('#').append(names.get(topic)).append('\n');
            for (int k = 0; k < keywords.size(); k++) {
                if ((having.get(k) >> topic & 1) == 1) {
                    source.append('!').append(keywords.get(k)).append('\n');
                }
            }
            source.append(textOf(bodies.get(topic), names));
        }
        return source.toString();
    }

    private static String unpack(int[] image, int start, int finish) {
        StringBuilder body = new StringBuilder();
        int k = start;
        while (k < finish) {
            int head = image[k];
            k++;
            if (head < 128) {
                for (int j = 0; j <= head; j++) {
                    body.append((char) image[k]);
                    k++;
                }
            } else {
                int distance = image[k];
                k++;
                for (int j = 0; j < head - 125; j++) {
                    body.append(body.charAt(body.length() - distance));
                }
            }
        }
        return body.toString();
    }

    private static void leaves(int[] image, int start, List<String> words, List<Integer> having) {
        int nodes = image[start];
        int leaves = 0;
        while (treeSize(leaves) < nodes) {
            leaves++;
        }
        int k = start + 1;
        for (int leaf = 0; leaf < leaves; leaf++) {
            int entries = image[k];
            k++;
            for (int entry = 0; entry < entries; entry++) {
                StringBuilder word = new StringBuilder();
                for (int j = 1; j <= image[k]; j++) {
                    word.append((char) image[k + j]);
                }
                k += 1 + image[k];
                words.add(word.toString());
                having.add(image[k] + 256 * image[k + 1]);
                k += 2;
            }
        }
    }

    private static int treeSize(int leaves) {
        return leaves <= 1 ? leaves : leaves + treeSize((leaves + 3) / 4);
    }

    private static String textOf(String body, List<String> names) {
        StringBuilder text = new StringBuilder(" ");
        for (int k = 0; k < body.length(); k++) {
            char part = body.charAt(k);
            if (part == 1) {
                text.append('*');
            } else if (part == 2) {
                k++;
                text.append('[').append(names.get(body.charAt(k))).append(']');
            } else if (part == 10) {
                text.append("\n\n ");
            } else {
                text.append(part);
            }
        }
        return text.append('\n').toString();
    }

    // ---- finding

    /** The first place behind which no text, however it goes on, is a query. */
    static int queryFault(String query) {
        for (int k = 1; k <= query.length(); k++) {
            if (!canGoOn(query.substring(0, k))) {
                return k - 1;
            }
        }
        return isQuery(query) ? -1 : query.length();
    }

    private static boolean canGoOn(String start) {
        String closing = "";
        for (int k = 0; k <= start.length(); k++) {
            if (isQuery(start + closing) || isQuery(start + "a" + closing)) {
                return true;
            }
            closing += ")";
        }
        return false;
    }

    private static boolean isQuery(String text) {
        String before = "";
        String now = text.replaceAll("[A-Za-z]+", "w").replace(" ", "");
        while (!now.equals(before)) {
            before = now;
            now = now.replace("!w", "w").replace("(w)", "w").replace("w&w", "w").replace("w|w", "w");
        }
        return now.equals("w");
    }

    int search(String query) {
        int fault = queryFault(query);
        if (fault >= 0) {
            return -1 - fault;
        }
        int found = 0;
        for (int topic = 0; topic < names.size(); topic++) {
            if (isTrue(query, words(topic))) {
                found |= 1 << topic;
            }
        }
        return found;
    }

    /** Words become t or f; then what binds most is worked out first, until one sign is left. */
    private static boolean isTrue(String query, TreeSet<String> words) {
        StringBuilder text = new StringBuilder();
        Matcher parts = Pattern.compile("([A-Za-z]+)|[^ ]").matcher(query);
        while (parts.find()) {
            String word = parts.group().toLowerCase();
            String cut = word.substring(0, Math.min(12, word.length()));
            text.append(parts.group(1) == null ? word : words.contains(cut) ? "t" : "f");
        }
        String now = text.toString();
        String[][] rules = {{"!t", "f"}, {"!f", "t"}, {"(t)", "t"}, {"(f)", "f"},
            {"t&t", "t"}, {"t&f", "f"}, {"f&t", "f"}, {"f&f", "f"}};
        String[][] last = {{"(t|t)", "(t)"}, {"(t|f)", "(t)"}, {"(f|t)", "(t)"}, {"(f|f)", "(f)"},
            {"(t|t|", "(t|"}, {"(t|f|", "(t|"}, {"(f|t|", "(t|"}, {"(f|f|", "(f|"}};
        now = "(" + now + ")";
        while (now.length() > 1) {
            String next = applied(now, rules);
            now = next.equals(now) ? applied(now, last) : next;
        }
        return now.equals("t");
    }

    private static String applied(String text, String[][] rules) {
        for (String[] rule : rules) {
            int place = text.indexOf(rule[0]);
            if (place >= 0) {
                return text.substring(0, place) + rule[1] + text.substring(place + rule[0].length());
            }
        }
        return text;
    }

    // ---- showing

    /** All lines of a topic in a width. */
    List<String> shown(int topic, int width) {
        List<String> out = new ArrayList<>();
        for (String paragraph : bodies.get(topic).split("(?<=\n)")) {
            if (paragraph.isEmpty()) {
                continue;
            }
            if (!out.isEmpty()) {
                out.add("");
            }
            Matcher links = Pattern.compile("\2(.)").matcher(paragraph);
            String text = links.replaceAll(m -> "[" + names.get(m.group(1).charAt(0)) + "]");
            out.addAll(filled(text.replace("\n", "").replace("\1", ""), width));
        }
        return out;
    }

    /** The topics that the links of a topic lead to. */
    List<Integer> links(int topic) {
        List<Integer> out = new ArrayList<>();
        Matcher links = Pattern.compile("\2(.)").matcher(bodies.get(topic));
        while (links.find()) {
            out.add((int) links.group(1).charAt(0));
        }
        return out;
    }

    private static List<String> filled(String text, int width) {
        List<String> out = new ArrayList<>();
        String now = "";
        for (String part : text.trim().split(" +")) {
            if (now.isEmpty()) {
                now = part;
            } else if (now.length() + 1 + part.length() <= width) {
                now = now + " " + part;
            } else {
                out.add(now);
                now = part;
            }
            while (now.length() > width) {
                out.add(now.substring(0, width));
                now = now.substring(width);
            }
        }
        out.add(now);
        return out;
    }
}

import java.util.ArrayDeque;
import java.util.Deque;
import java.util.List;
import java.util.NoSuchElementException;

/** The face of the document a second time, over the model: what RunTest compares a run with. */
final class ModelFile {
    private static final int STACK = 16;

    String source = "";
    String query = "";
    int[] image = new int[0];
    Model open = null;
    private int line = -1;
    private int visited = 0;
    private int topic = 0;
    private final Deque<Integer> back = new ArrayDeque<>();
    private final Deque<Integer> forward = new ArrayDeque<>();
    private List<String> shown = List.of();
    private int width = 0;

    int put(int signs) {
        StringBuilder more = new StringBuilder();
        for (int rest = signs; rest != 0; rest >>>= 8) {
            char sign = (char) (rest & 255);
            if (sign != 0 && sign != '\n' && (sign < ' ' || sign > '~')) {
                throw new IllegalArgumentException();
            }
            more.append(sign == 0 ? "" : "" + sign);
        }
        if (source.length() + more.length() > 700) {
            throw new UnsupportedOperationException();
        }
        source += more;
        return source.length();
    }

    int end(int n) {
        if (n < 0 || n > source.length()) {
            throw new IllegalArgumentException();
        }
        source = source.substring(0, n);
        return 0;
    }

    int compile() {
        Model model = Model.of(source);
        line = model.line;
        if (model.kind == 0) {
            image = model.image.clone();
        }
        return model.kind;
    }

    int line() {
        return line;
    }

    int at(int k) {
        if (k < -1 || k >= image.length) {
            throw new IndexOutOfBoundsException();
        }
        return k == -1 ? image.length : image[k];
    }

    int spoil(int k, int b) {
        if (k < 0 || k >= image.length) {
            throw new IndexOutOfBoundsException();
        }
        int before = image[k];
        image[k] = b & 255;
        return before;
    }

    int open() {
        Model model = Model.ofImage(image);
        if (model == null) {
            return 0;
        }
        open = model;
        topic = 0;
        back.clear();
        forward.clear();
        return 1;
    }

    private void mustBeOpen() {
        if (open == null) {
            throw new IllegalStateException();
        }
    }

    int jump(int next) {
        mustBeOpen();
        if (next < 0 || next >= open.names.size()) {
            throw new NoSuchElementException();
        }
        back.addLast(topic);
        if (back.size() > STACK) {
            back.removeFirst();
        }
        forward.clear();
        topic = next;
        return 0;
    }

    int follow(int k) {
        mustBeOpen();
        List<Integer> links = open.links(topic);
        if (k < 0 || k >= links.size()) {
            throw new NoSuchElementException();
        }
        jump(links.get(k));
        return topic;
    }

    int go(boolean isForward) {
        mustBeOpen();
        Deque<Integer> from = isForward ? forward : back;
        if (from.isEmpty()) {
            throw new NoSuchElementException();
        }
        (isForward ? back : forward).addLast(topic);
        topic = from.removeLast();
        return topic;
    }

    int about(int what) {
        mustBeOpen();
        if (what < 0 || what > 5) {
            throw new IllegalArgumentException();
        }
        int[] all = {topic, open.names.size(), open.links(topic).size(), back.size(), forward.size(),
            open.bodies.get(topic).length()};
        return all[what];
    }

    int type(int sign) {
        if (sign < ' ' || sign > '~') {
            throw new IllegalArgumentException();
        }
        if (query.length() == 40) {
            throw new UnsupportedOperationException();
        }
        query += (char) sign;
        return query.length();
    }

    int keyword() {
        mustBeOpen();
        String letters = query.replaceAll("[^A-Za-z]", "").toLowerCase();
        query = "";
        visited = open.visited(letters);
        return open.keywords.getOrDefault(letters, 0);
    }

    int visited() {
        return visited;
    }

    int search() {
        mustBeOpen();
        String asked = query;
        query = "";
        return open.search(asked);
    }

    int show(int newWidth) {
        mustBeOpen();
        if (newWidth < 4 || newWidth > 40) {
            throw new IllegalArgumentException();
        }
        width = newWidth;
        shown = open.shown(topic, width);
        return shown.size();
    }

    int sign(int at, int place) {
        if (at < 0 || at >= shown.size() || place < 0 || place >= width) {
            throw new IndexOutOfBoundsException();
        }
        return place < shown.get(at).length() ? shown.get(at).charAt(place) : 0;
    }
}

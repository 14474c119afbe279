import java.util.NoSuchElementException;

/**
 * A help file: a source is compiled into an image, and a viewer opens an image, goes through its
 * topics, finds and shows. Everything an object needs is made once, in its constructor: no later
 * call makes anything but the exception that it throws.
 */
public final class HelpFile {
    public static final int NONE = -1;

    private static final int SOURCE_MOST = 700;
    private static final int QUERY_MOST = 40;
    private static final int TOPICS_MOST = 10;
    private static final int BODY_MOST = 255;
    private static final int NAME_MOST = 6;
    private static final int KEYWORD_MOST = 8;
    private static final int WORD_MOST = 12;
    private static final int KEYWORDS_MOST = 250;
    private static final int STACK_MOST = 16;
    private static final int WIDTH_LEAST = 4;
    private static final int WIDTH_MOST = 40;

    /** A sign of a source gives three bytes of its image at most; what every image has is added. */
    private static final int IMAGE_ROOM = 3000;

    private static final int EMPHASIS = 1;
    private static final int LINK = 2;
    private static final int LINE_END = 10;
    private static final int BLANK = 32;
    private static final int LAST_SIGN = 126;

    private static final int IMAGE_MARK = 72;
    private static final int HEADER_BYTES = 2;
    private static final int TOPIC_BYTES = 10;
    private static final int PACKED_LENGTH_PLACE = 8;
    private static final int PLAIN_MOST = 128;
    private static final int COPY_MARK = 128;
    private static final int COPY_LEAST = 3;
    private static final int COPY_MOST = 63;

    private final Row source;
    private final Row image;
    private final Row rewritten;
    private final Row typed;
    private final Compiler compiler;
    private final ImageReader reader;
    private final Visits visits;
    private final Query query;
    private final Screen screen;
    private Book draft;
    private Book book;
    private boolean isOpen;
    private int faultLine;
    private int nodesVisited;

    public HelpFile() {
        source = new Row(SOURCE_MOST);
        image = new Row(IMAGE_ROOM);
        rewritten = new Row(IMAGE_ROOM);
        typed = new Row(QUERY_MOST);
        compiler = new Compiler();
        reader = new ImageReader();
        visits = new Visits();
        query = new Query();
        screen = new Screen();
        draft = new Book();
        book = new Book();
        isOpen = false;
        faultLine = NONE;
        nodesVisited = 0;
    }

    public int put(int signs) throws IllegalArgumentException, UnsupportedOperationException {
        int more = 0;
        for (int shift = 0; shift < 32; shift += 8) {
            int sign = (signs >>> shift) & 255;
            if (sign != 0 && sign != LINE_END && !isTyped(sign)) {
                throw new IllegalArgumentException("no sign of a source");
            }
            more += sign == 0 ? 0 : 1;
        }
        if (source.count() + more > SOURCE_MOST) {
            throw new UnsupportedOperationException("the source is full");
        }
        for (int shift = 0; shift < 32; shift += 8) {
            int sign = (signs >>> shift) & 255;
            if (sign != 0) {
                source.append(sign);
            }
        }
        return source.count();
    }

    public void end(int n) throws IllegalArgumentException {
        if (n < 0 || n > source.count()) {
            throw new IllegalArgumentException("the source has not so many signs");
        }
        source.shorten(n);
    }

    public int compile() {
        int fault = compiler.translate(source, draft);
        faultLine = compiler.faultLine();
        if (fault == 0) {
            draft.gatherWords();
            ImageWriter.write(draft, image);
        }
        return fault;
    }

    public int line() {
        return faultLine;
    }

    public int at(int k) throws IndexOutOfBoundsException {
        if (k == -1) {
            return image.count();
        }
        if (!image.has(k)) {
            throw new IndexOutOfBoundsException("the image has no such byte");
        }
        return image.element(k);
    }

    public int spoil(int k, int b) throws IndexOutOfBoundsException {
        if (!image.has(k)) {
            throw new IndexOutOfBoundsException("the image has no such byte");
        }
        int before = image.element(k);
        image.replace(k, b & 255);
        return before;
    }

    public boolean open() {
        if (!isImageSound()) {
            return false;
        }
        Book closed = book;
        book = draft;
        draft = closed;
        visits.restart();
        isOpen = true;
        return true;
    }

    public void jump(int topic) throws IllegalStateException, NoSuchElementException {
        requireOpen();
        if (topic < 0 || topic >= book.topics()) {
            throw new NoSuchElementException("no such topic");
        }
        visits.visit(topic);
    }

    public int follow(int k) throws IllegalStateException, NoSuchElementException {
        requireOpen();
        int topic = book.linkTarget(visits.topic(), k);
        if (topic == NONE) {
            throw new NoSuchElementException("no such link");
        }
        visits.visit(topic);
        return topic;
    }

    public int go(boolean forward) throws IllegalStateException, NoSuchElementException {
        requireOpen();
        int waiting = forward ? visits.forwardCount() : visits.backCount();
        if (waiting == 0) {
            throw new NoSuchElementException("the stack is empty");
        }
        if (forward) {
            visits.stepForward();
        } else {
            visits.stepBack();
        }
        return visits.topic();
    }

    public int about(int what) throws IllegalStateException, IllegalArgumentException {
        requireOpen();
        int topic = visits.topic();
        switch (what) {
            case 0:
                return topic;
            case 1:
                return book.topics();
            case 2:
                return book.links(topic);
            case 3:
                return visits.backCount();
            case 4:
                return visits.forwardCount();
            case 5:
                return book.bodyLength(topic);
            default:
                throw new IllegalArgumentException("nothing is told about that");
        }
    }

    public int type(int sign) throws IllegalArgumentException, UnsupportedOperationException {
        if (!isTyped(sign)) {
            throw new IllegalArgumentException("no sign of a query");
        }
        if (typed.count() >= QUERY_MOST) {
            throw new UnsupportedOperationException("the query is full");
        }
        typed.append(sign);
        return typed.count();
    }

    public int keyword() throws IllegalStateException {
        requireOpen();
        long wanted = query.lettersAlone(typed);
        typed.shorten(0);
        nodesVisited = Tree.nodesOnTheWay(book.keywords(), wanted);
        return book.keywords().topicsOf(wanted);
    }

    public int visited() {
        return nodesVisited;
    }

    public int search() throws IllegalStateException {
        requireOpen();
        int found = query.find(typed, book);
        typed.shorten(0);
        return found;
    }

    public int show(int width) throws IllegalStateException, IllegalArgumentException {
        requireOpen();
        if (width < WIDTH_LEAST || width > WIDTH_MOST) {
            throw new IllegalArgumentException("no such width");
        }
        screen.lay(book, visits.topic(), width);
        return screen.lines();
    }

    public int sign(int line, int place) throws IndexOutOfBoundsException {
        if (line < 0 || line >= screen.lines() || place < 0 || place >= screen.width()) {
            throw new IndexOutOfBoundsException("no such place is shown");
        }
        return screen.shown(line, place);
    }

    private void requireOpen() {
        if (!isOpen) {
            throw new IllegalStateException("nothing is open");
        }
    }

    /**
     * Reads the image into the draft. Whatever was read: an image is sound just if what was read
     * could stand in a source, and gives the same image again.
     */
    private boolean isImageSound() {
        if (!reader.read(image, draft) || !draft.isOfSource()) {
            return false;
        }
        draft.gatherWords();
        ImageWriter.write(draft, rewritten);
        return rewritten.isSameAs(image);
    }

    private static boolean isTyped(int sign) {
        return sign >= BLANK && sign <= LAST_SIGN;
    }

    /** A row of numbers with room for a fixed many; what goes beyond that is left out. */
    private static final class Row {
        private final int[] elements;
        private int count;
        private boolean overfull;

        Row(int room) {
            elements = new int[room];
            count = 0;
            overfull = false;
        }

        int count() {
            return count;
        }

        boolean has(int k) {
            return k >= 0 && k < count;
        }

        int element(int k) {
            return k >= 0 && k < count ? elements[k] : 0;
        }

        /** The two bytes from k on, the lower first. */
        int pair(int k) {
            return element(k) + 256 * element(k + 1);
        }

        void append(int element) {
            if (count < elements.length) {
                elements[count] = element;
                count++;
            } else {
                overfull = true;
            }
        }

        void appendPair(int number) {
            append(number & 255);
            append((number >> 8) & 255);
        }

        void replace(int k, int element) {
            if (has(k)) {
                elements[k] = element;
            }
        }

        void replacePair(int k, int number) {
            replace(k, number & 255);
            replace(k + 1, (number >> 8) & 255);
        }

        void shorten(int length) {
            if (length >= 0 && length <= count) {
                count = length;
                overfull = false;
            }
        }

        void dropFirst() {
            for (int k = 1; k < count; k++) {
                elements[k - 1] = elements[k];
            }
            shorten(count - 1);
        }

        int sum() {
            int sum = 0;
            for (int k = 0; k < count; k++) {
                sum += elements[k];
            }
            return sum;
        }

        boolean isSameAs(Row other) {
            if (overfull || other.overfull || count != other.count) {
                return false;
            }
            for (int k = 0; k < count; k++) {
                if (elements[k] != other.elements[k]) {
                    return false;
                }
            }
            return true;
        }
    }

    /**
     * Words of at most twelve letters as numbers: five bits a letter, the first one highest, so
     * that numbers compare as the words do in the alphabet, and no word is 0.
     */
    private static final class Letters {
        private static final int BITS = 5;
        private static final int MASK = 31;
        private static final int BEFORE_A = 96;

        static boolean isSmall(int sign) {
            return sign >= 'a' && sign <= 'z';
        }

        static boolean isLetter(int sign) {
            return sign >= 'a' && sign <= 'z' || sign >= 'A' && sign <= 'Z';
        }

        /** The first place from start on, and before finish, that has no letter; else finish. */
        static int lettersEnd(Row row, int start, int finish) {
            int k = start;
            while (k < finish && isLetter(row.element(k))) {
                k++;
            }
            return k;
        }

        /** Whether all from start to finish are small letters, at least one and at most most. */
        static boolean isWord(Row row, int start, int finish, int most) {
            for (int k = start; k < finish; k++) {
                if (!isSmall(row.element(k))) {
                    return false;
                }
            }
            return finish > start && finish - start <= most;
        }

        /** The letters from start on up to finish or the first other sign. */
        static long word(Row row, int start, int finish) {
            long word = 0;
            for (int k = start; k < finish && isLetter(row.element(k)); k++) {
                word = extended(word, k - start, row.element(k));
            }
            return word;
        }

        /** One more letter; its lowest five bits are the same for a capital and a small one. */
        static long extended(long word, int length, int letter) {
            if (length >= WORD_MOST) {
                return word;
            }
            long bits = letter & MASK;
            return word | (bits << (BITS * (WORD_MOST - 1 - length)));
        }

        static int length(long word) {
            int length = 0;
            while (length < WORD_MOST && (word << (BITS * length + 64 - BITS * WORD_MOST)) != 0) {
                length++;
            }
            return length;
        }

        /** The letter at a place below twelve; 0 behind the word's end. */
        static int letter(long word, int place) {
            int bits = (int) (word >> (BITS * (WORD_MOST - 1 - place))) & MASK;
            return bits == 0 ? 0 : bits + BEFORE_A;
        }
    }

    /** Words in the order of the alphabet, each with the topics that have it, a bit each. */
    private static final class WordList {
        private final long[] words;
        private final int[] topics;
        private int count;

        WordList(int room) {
            words = new long[room];
            topics = new int[room];
            count = 0;
        }

        void clear() {
            count = 0;
        }

        int count() {
            return count;
        }

        long word(int k) {
            return k >= 0 && k < count ? words[k] : 0;
        }

        int topics(int k) {
            return k >= 0 && k < count ? topics[k] : 0;
        }

        void note(long word, int topicBits) {
            int place = placeOf(word);
            if (place < count && words[place] == word) {
                topics[place] |= topicBits;
            } else if (count < words.length) {
                insert(place, word, topicBits);
            }
        }

        int topicsOf(long word) {
            int place = placeOf(word);
            return place < count && words[place] == word ? topics[place] : 0;
        }

        private void insert(int place, long word, int topicBits) {
            for (int k = count; k > place; k--) {
                words[k] = words[k - 1];
                topics[k] = topics[k - 1];
            }
            words[place] = word;
            topics[place] = topicBits;
            count++;
        }

        /** The place of the first word that isn't ahead of this one. */
        private int placeOf(long word) {
            int low = 0;
            int high = count;
            while (low < high) {
                int middle = (low + high) / 2;
                if (words[middle] < word) {
                    low = middle + 1;
                } else {
                    high = middle;
                }
            }
            return low;
        }
    }

    /** The shape of the tree of keywords, which follows from how many keywords there are. */
    private static final class Tree {
        private static final int ENTRIES_MOST = 4;
        private static final int LEAVES_MOST = 63;

        /** How many nodes a row has if all its nodes but the last have span keywords below. */
        static int rowNodes(int keywords, int span) {
            return (keywords + span - 1) / Math.max(span, 1);
        }

        static int nodes(int keywords) {
            int nodes = rowNodes(keywords, ENTRIES_MOST);
            for (int span = ENTRIES_MOST; span < keywords; span *= ENTRIES_MOST) {
                nodes += rowNodes(keywords, span * ENTRIES_MOST);
            }
            return nodes;
        }

        /** How many leaves a tree of so many nodes has; NONE if there is no such tree. */
        static int leaves(int nodes) {
            for (int leaves = 0; leaves <= LEAVES_MOST; leaves++) {
                if (nodes(leaves * ENTRIES_MOST) == nodes) {
                    return leaves;
                }
            }
            return NONE;
        }

        static int nodesOnTheWay(WordList keywords, long wanted) {
            int span = 1;
            while (span * ENTRIES_MOST < keywords.count()) {
                span *= ENTRIES_MOST;
            }
            int visited = 0;
            int first = keywords.count() == 0 ? NONE : 0;
            for (; span >= 1 && first != NONE; span /= ENTRIES_MOST) {
                visited++;
                first = lastNotBehind(keywords, wanted, first, span);
            }
            return visited;
        }

        /** Of a node's entries, span keywords apart, the last one that isn't behind the wanted. */
        private static int lastNotBehind(WordList keywords, long wanted, int first, int span) {
            for (int entry = ENTRIES_MOST - 1; entry >= 0; entry--) {
                int k = first + entry * span;
                if (k < keywords.count() && keywords.word(k) <= wanted) {
                    return k;
                }
            }
            return NONE;
        }
    }

    /** What a source says and an image holds: names, bodies, keywords and words. */
    private static final class Book {
        private static final int KEYWORDS_ROOM = 252;
        private static final int WORDS_ROOM = TOPICS_MOST * BODY_MOST / 2;

        private final long[] names;
        private final int[] starts;
        private final Row bodies;
        private final WordList keywords;
        private final WordList words;
        private int topics;

        Book() {
            names = new long[TOPICS_MOST];
            starts = new int[TOPICS_MOST + 1];
            bodies = new Row(TOPICS_MOST * BODY_MOST);
            keywords = new WordList(KEYWORDS_ROOM);
            words = new WordList(WORDS_ROOM);
            topics = 0;
        }

        void clear() {
            topics = 0;
            bodies.shorten(0);
            keywords.clear();
        }

        int topics() {
            return topics;
        }

        Row bodies() {
            return bodies;
        }

        WordList keywords() {
            return keywords;
        }

        WordList words() {
            return words;
        }

        int everyTopic() {
            return (1 << topics) - 1;
        }

        void beginTopic(long name) {
            if (topics < TOPICS_MOST) {
                names[topics] = name;
                starts[topics] = bodies.count();
                topics++;
                starts[topics] = bodies.count();
            }
        }

        /** One more byte of the body of the topic that was begun last. */
        void append(int part) {
            bodies.append(part);
            starts[topics] = bodies.count();
        }

        void noteKeyword(long word) {
            keywords.note(word, 1 << (topics - 1));
        }

        boolean has(int topic) {
            return topic >= 0 && topic < topics;
        }

        long name(int topic) {
            return has(topic) ? names[topic] : 0;
        }

        int topicNamed(long name) {
            for (int topic = 0; topic < topics; topic++) {
                if (names[topic] == name) {
                    return topic;
                }
            }
            return NONE;
        }

        int bodyStart(int topic) {
            return has(topic) ? starts[topic] : 0;
        }

        int bodyEnd(int topic) {
            return has(topic) ? starts[topic + 1] : 0;
        }

        int bodyLength(int topic) {
            return bodyEnd(topic) - bodyStart(topic);
        }

        int links(int topic) {
            int links = 0;
            for (int k = bodyStart(topic); k < bodyEnd(topic); k++) {
                if (bodies.element(k) == LINK) {
                    links++;
                    k++;
                }
            }
            return links;
        }

        /** The topic that a topic's link leads to; NONE if it has no such link. */
        int linkTarget(int topic, int link) {
            int ahead = link;
            for (int k = bodyStart(topic); k < bodyEnd(topic); k++) {
                if (bodies.element(k) == LINK) {
                    k++;
                    if (ahead == 0) {
                        return bodies.element(k);
                    }
                    ahead--;
                }
            }
            return NONE;
        }

        void gatherWords() {
            words.clear();
            for (int topic = 0; topic < topics; topic++) {
                int finish = bodyEnd(topic);
                int behind = 0;
                for (int k = bodyStart(topic); k < finish; k = behind + 1) {
                    behind = Letters.lettersEnd(bodies, k, finish);
                    if (behind > k) {
                        words.note(Letters.word(bodies, k, behind), 1 << topic);
                    }
                }
            }
        }

        /** Whether there is a source, of whatever length, that says just this. */
        boolean isOfSource() {
            for (int topic = 0; topic < topics; topic++) {
                if (names[topic] == 0 || topicNamed(names[topic]) != topic || !isBody(topic)) {
                    return false;
                }
            }
            for (int k = 0; k < keywords.count(); k++) {
                int having = keywords.topics(k);
                if (keywords.word(k) == 0 || having == 0 || having > everyTopic()) {
                    return false;
                }
            }
            return topics > 0 && keywords.count() <= KEYWORDS_MOST;
        }

        private boolean isBody(int topic) {
            int before = LINE_END;
            boolean emphasis = false;
            for (int k = bodyStart(topic); k < bodyEnd(topic); k++) {
                int part = bodies.element(k);
                if (part == EMPHASIS) {
                    emphasis = !emphasis;
                } else if (part == LINK) {
                    k++;
                    if (k >= bodyEnd(topic) || bodies.element(k) >= topics) {
                        return false;
                    }
                } else if (!mayFollow(before, part) || part == LINE_END && emphasis) {
                    return false;
                }
                before = part;
            }
            return before == LINE_END && bodyLength(topic) <= BODY_MOST;
        }

        private static boolean mayFollow(int before, int part) {
            if (part == BLANK || part == LINE_END) {
                return before != BLANK && before != LINE_END;
            }
            return isTyped(part) && part != '*' && part != '[' && part != ']';
        }
    }

    /** Goes over a source once, filling a book, and finds the source's first fault. */
    private static final class Compiler {
        private static final int TEXT_AHEAD = 1;
        private static final int NO_HEADING = 2;
        private static final int NO_KEYWORD = 3;
        private static final int NAME_AGAIN = 4;
        private static final int TOPIC_TOO_MANY = 5;
        private static final int NO_LINK = 6;
        private static final int EMPHASIS_ON = 7;
        private static final int NO_TARGET = 8;
        private static final int BODY_TOO_LONG = 9;
        private static final int NO_TOPICS = 10;
        private static final int LINKS_ROOM = SOURCE_MOST / 3 + 1;

        private final int[] headingLines;
        private final long[] linkNames;
        private final int[] linkLines;
        private final int[] linkPlaces;
        private int links;
        private Row source;
        private Book book;
        private int fault;
        private int faultLine;
        private int lineNow;
        private int textLine;
        private boolean inParagraph;
        private boolean blankDue;
        private boolean emphasis;

        Compiler() {
            headingLines = new int[TOPICS_MOST];
            linkNames = new long[LINKS_ROOM];
            linkLines = new int[LINKS_ROOM];
            linkPlaces = new int[LINKS_ROOM];
            source = null;
            book = null;
            faultLine = NONE;
        }

        int faultLine() {
            return faultLine;
        }

        /** Fills the book: 0, or the kind of the source's first fault. */
        int translate(Row from, Book target) {
            source = from;
            book = target;
            restart();
            int finish = 0;
            for (int start = 0; start <= source.count() && fault == 0; start = finish + 1) {
                finish = lineEnd(start);
                readLine(start, finish);
                lineNow++;
            }
            closeParagraph();
            resolveLinks();
            checkBodies();
            if (book.topics() == 0) {
                blame(NO_TOPICS, 0);
            }
            return fault;
        }

        private void restart() {
            book.clear();
            links = 0;
            fault = 0;
            faultLine = NONE;
            lineNow = 0;
            textLine = 0;
            inParagraph = false;
            blankDue = false;
            emphasis = false;
        }

        /** Later checks may go on behind a fault: only the first one is kept. */
        private void blame(int kind, int line) {
            if (fault == 0) {
                fault = kind;
                faultLine = line;
            }
        }

        private int lineEnd(int start) {
            int k = start;
            while (k < source.count() && source.element(k) != LINE_END) {
                k++;
            }
            return k;
        }

        private boolean isBlank(int start, int finish) {
            for (int k = start; k < finish; k++) {
                if (source.element(k) != BLANK) {
                    return false;
                }
            }
            return true;
        }

        private void readLine(int start, int finish) {
            if (isBlank(start, finish)) {
                closeParagraph();
            } else if (source.element(start) == '#') {
                closeParagraph();
                readHeading(start + 1, finish);
            } else if (source.element(start) == '!') {
                closeParagraph();
                readKeyword(start + 1, finish);
            } else if (book.topics() == 0) {
                blame(TEXT_AHEAD, lineNow);
            } else {
                readText(start, finish);
            }
        }

        private void readHeading(int start, int finish) {
            long name = Letters.word(source, start, finish);
            if (!Letters.isWord(source, start, finish, NAME_MOST)) {
                blame(NO_HEADING, lineNow);
            } else if (book.topicNamed(name) != NONE) {
                blame(NAME_AGAIN, lineNow);
            } else if (book.topics() >= TOPICS_MOST) {
                blame(TOPIC_TOO_MANY, lineNow);
            } else {
                headingLines[book.topics()] = lineNow;
                book.beginTopic(name);
            }
        }

        private void readKeyword(int start, int finish) {
            if (book.topics() == 0) {
                blame(TEXT_AHEAD, lineNow);
            } else if (!Letters.isWord(source, start, finish, KEYWORD_MOST)) {
                blame(NO_KEYWORD, lineNow);
            } else {
                book.noteKeyword(Letters.word(source, start, finish));
            }
        }

        private void readText(int start, int finish) {
            textLine = lineNow;
            blankDue = inParagraph;
            for (int k = start; k < finish && fault == 0; k++) {
                int sign = source.element(k);
                if (sign == BLANK) {
                    blankDue = inParagraph;
                    continue;
                }
                appendDueBlank();
                if (sign == '[') {
                    k = readLink(k, finish);
                } else {
                    readSign(sign);
                }
            }
        }

        private void appendDueBlank() {
            if (blankDue) {
                book.append(BLANK);
            }
            blankDue = false;
            inParagraph = true;
        }

        private void readSign(int sign) {
            if (sign == ']') {
                blame(NO_LINK, lineNow);
            } else if (sign == '*') {
                emphasis = !emphasis;
                book.append(EMPHASIS);
            } else {
                book.append(sign);
            }
        }

        /** Reads the link that begins at k: the place of its ], or k if it is none. */
        private int readLink(int k, int finish) {
            int behind = Letters.lettersEnd(source, k + 1, finish);
            boolean isLink = behind < finish && source.element(behind) == ']'
                    && Letters.isWord(source, k + 1, behind, NAME_MOST);
            if (!isLink || links >= LINKS_ROOM) {
                blame(NO_LINK, lineNow);
                return k;
            }
            book.append(LINK);
            linkNames[links] = Letters.word(source, k + 1, behind);
            linkLines[links] = lineNow;
            linkPlaces[links] = book.bodies().count();
            links++;
            book.append(0);
            return behind;
        }

        private void closeParagraph() {
            if (!inParagraph) {
                return;
            }
            if (emphasis) {
                blame(EMPHASIS_ON, textLine);
            }
            book.append(LINE_END);
            inParagraph = false;
            emphasis = false;
        }

        /** A link may lead to a topic that comes later, so targets wait for the source's end. */
        private void resolveLinks() {
            for (int k = 0; k < links; k++) {
                int topic = book.topicNamed(linkNames[k]);
                if (topic == NONE) {
                    blame(NO_TARGET, linkLines[k]);
                }
                book.bodies().replace(linkPlaces[k], topic);
            }
        }

        private void checkBodies() {
            for (int topic = 0; topic < book.topics(); topic++) {
                if (book.bodyLength(topic) > BODY_MOST) {
                    blame(BODY_TOO_LONG, headingLines[topic]);
                }
            }
        }
    }

    /** Writes a book as an image. */
    private static final class ImageWriter {
        static void write(Book book, Row out) {
            out.shorten(0);
            out.append(IMAGE_MARK);
            out.append(book.topics());
            for (int topic = 0; topic < book.topics(); topic++) {
                writeName(book.name(topic), out);
                out.appendPair(book.bodyLength(topic));
                out.appendPair(0);
            }
            for (int topic = 0; topic < book.topics(); topic++) {
                int start = out.count();
                pack(book, topic, out);
                int place = HEADER_BYTES + TOPIC_BYTES * topic + PACKED_LENGTH_PLACE;
                out.replacePair(place, out.count() - start);
            }
            writeTree(book.keywords(), out);
            writeIndex(book.words(), out);
            out.appendPair(out.sum());
        }

        private static void writeName(long name, Row out) {
            for (int k = 0; k < NAME_MOST; k++) {
                out.append(Letters.letter(name, k));
            }
        }

        private static void writeWord(long word, Row out) {
            int length = Letters.length(word);
            out.append(length);
            for (int k = 0; k < length; k++) {
                out.append(Letters.letter(word, k));
            }
        }

        private static void pack(Book book, int topic, Row out) {
            Row bodies = book.bodies();
            int start = book.bodyStart(topic);
            int finish = book.bodyEnd(topic);
            int plainHead = NONE;
            int k = start;
            while (k < finish) {
                int distance = bestDistance(bodies, start, k, finish);
                if (distance == NONE) {
                    plainHead = appendPlain(bodies.element(k), plainHead, out);
                    k++;
                } else {
                    int length = alike(bodies, k, distance, finish);
                    out.append(COPY_MARK + length - COPY_LEAST);
                    out.append(distance);
                    plainHead = NONE;
                    k += length;
                }
            }
        }

        /** Adds to the piece whose head is told, or to a new one: where the piece's head is. */
        private static int appendPlain(int part, int plainHead, Row out) {
            int head = plainHead;
            if (head == NONE || out.element(head) == PLAIN_MOST - 1) {
                head = out.count();
                out.append(0);
            } else {
                out.replace(head, out.element(head) + 1);
            }
            out.append(part);
            return head;
        }

        /** How far ahead the longest row like the one at k begins; NONE if none is long enough. */
        private static int bestDistance(Row bodies, int start, int k, int finish) {
            int best = NONE;
            int longest = COPY_LEAST - 1;
            for (int distance = 1; distance <= k - start; distance++) {
                int length = alike(bodies, k, distance, finish);
                if (length > longest) {
                    longest = length;
                    best = distance;
                }
            }
            return best;
        }

        private static int alike(Row bodies, int k, int distance, int finish) {
            int length = 0;
            while (length < COPY_MOST && k + length < finish
                    && bodies.element(k + length) == bodies.element(k + length - distance)) {
                length++;
            }
            return length;
        }

        private static void writeTree(WordList keywords, Row out) {
            int count = keywords.count();
            out.append(Tree.nodes(count));
            for (int k = 0; k < count; k += Tree.ENTRIES_MOST) {
                writeLeaf(keywords, k, out);
            }
            int firstBelow = 0;
            for (int span = Tree.ENTRIES_MOST; span < count; span *= Tree.ENTRIES_MOST) {
                writeRowAbove(keywords, firstBelow, span, out);
                firstBelow += Tree.rowNodes(count, span);
            }
        }

        private static void writeLeaf(WordList keywords, int first, Row out) {
            int entries = Math.min(Tree.ENTRIES_MOST, keywords.count() - first);
            out.append(entries);
            for (int k = first; k < first + entries; k++) {
                writeWord(keywords.word(k), out);
                out.appendPair(keywords.topics(k));
            }
        }

        /** The row above a row of nodes that have span keywords each. */
        private static void writeRowAbove(WordList keywords, int firstBelow, int span, Row out) {
            int below = Tree.rowNodes(keywords.count(), span);
            for (int node = 0; node < below; node++) {
                if (node % Tree.ENTRIES_MOST == 0) {
                    out.append(Math.min(Tree.ENTRIES_MOST, below - node));
                }
                out.append(firstBelow + node);
                writeWord(keywords.word(node * span), out);
            }
        }

        private static void writeIndex(WordList words, Row out) {
            out.appendPair(words.count());
            for (int k = 0; k < words.count(); k++) {
                writeWord(words.word(k), out);
                writeTopics(words.topics(k), out);
            }
        }

        private static void writeTopics(int topics, Row out) {
            out.append(Integer.bitCount(topics));
            int before = 0;
            for (int topic = 0; topic < TOPICS_MOST; topic++) {
                if ((topics >> topic & 1) == 1) {
                    out.append(topic - before);
                    before = topic;
                }
            }
        }
    }

    /**
     * Reads an image into a book. A sound image is read as it is meant; what is read of another
     * one may be anything, as the image of that is compared with this one later.
     */
    private static final class ImageReader {
        private Row image;
        private Book book;
        private int place;

        ImageReader() {
            image = null;
            book = null;
            place = 0;
        }

        /** Whether something could be read. */
        boolean read(Row from, Book target) {
            image = from;
            book = target;
            book.clear();
            int topics = image.element(1);
            if (topics < 1 || topics > TOPICS_MOST) {
                return false;
            }
            place = HEADER_BYTES + TOPIC_BYTES * topics;
            for (int topic = 0; topic < topics; topic++) {
                int header = HEADER_BYTES + TOPIC_BYTES * topic;
                book.beginTopic(Letters.word(image, header, header + NAME_MOST));
                if (!unpack(topic, image.pair(header + PACKED_LENGTH_PLACE))) {
                    return false;
                }
            }
            return readTree();
        }

        private int next() {
            int element = image.element(place);
            place++;
            return element;
        }

        private boolean unpack(int topic, int length) {
            int finish = place + length;
            for (int piece = 0; piece < BODY_MOST && place < finish; piece++) {
                int head = next();
                boolean isPlain = head < COPY_MARK;
                int more = isPlain ? head + 1 : head - COPY_MARK + COPY_LEAST;
                int distance = isPlain ? 0 : next();
                if (distance > book.bodyLength(topic) || !isPlain && distance == 0
                        || more + book.bodyLength(topic) > BODY_MOST) {
                    return false;
                }
                for (int k = 0; k < more; k++) {
                    int copied = book.bodyEnd(topic) - distance;
                    book.append(isPlain ? next() : book.bodies().element(copied));
                }
            }
            return place == finish;
        }

        private boolean readTree() {
            int leaves = Tree.leaves(next());
            for (int leaf = 0; leaf < leaves; leaf++) {
                int entries = next();
                if (entries > Tree.ENTRIES_MOST) {
                    return false;
                }
                for (int entry = 0; entry < entries; entry++) {
                    int length = next();
                    if (length > KEYWORD_MOST) {
                        return false;
                    }
                    long word = Letters.word(image, place, place + length);
                    place += length;
                    book.keywords().note(word, image.pair(place));
                    place += 2;
                }
            }
            return leaves != NONE;
        }
    }

    /** The topic that the viewer is at, and those that it came from and went back from. */
    private static final class Visits {
        private final Row back;
        private final Row forward;
        private int topic;

        Visits() {
            back = new Row(STACK_MOST);
            forward = new Row(STACK_MOST);
            topic = 0;
        }

        void restart() {
            back.shorten(0);
            forward.shorten(0);
            topic = 0;
        }

        int topic() {
            return topic;
        }

        int backCount() {
            return back.count();
        }

        int forwardCount() {
            return forward.count();
        }

        void visit(int next) {
            push(back);
            forward.shorten(0);
            topic = next;
        }

        void stepBack() {
            push(forward);
            topic = pop(back);
        }

        void stepForward() {
            push(back);
            topic = pop(forward);
        }

        private void push(Row stack) {
            if (stack.count() >= STACK_MOST) {
                stack.dropFirst();
            }
            stack.append(topic);
        }

        private static int pop(Row stack) {
            int last = stack.element(stack.count() - 1);
            stack.shorten(stack.count() - 1);
            return last;
        }
    }

    /** What the signs typed so far mean, as letters or as a query. */
    private static final class Query {
        private final int[] found;
        private final int[] joined;
        private final boolean[] negated;
        private int everyTopic;
        private int level;
        private boolean conditionDue;

        /** A level for the query itself and one for each ( that can stand open. */
        Query() {
            found = new int[QUERY_MOST + 1];
            joined = new int[QUERY_MOST + 1];
            negated = new boolean[QUERY_MOST + 1];
        }

        /**
         * No keyword has more than eight letters: so that it is enough to know the first twelve of
         * a longer row to tell which keywords are behind it, and that none is like it.
         */
        long lettersAlone(Row typed) {
            long letters = 0;
            int length = 0;
            for (int k = 0; k < typed.count(); k++) {
                if (Letters.isLetter(typed.element(k))) {
                    letters = Letters.extended(letters, length, typed.element(k));
                    length++;
                }
            }
            return letters;
        }

        /** The topics that are found, or -1 less the place where no query goes on. */
        int find(Row typed, Book book) {
            everyTopic = book.everyTopic();
            level = 0;
            beginLevel();
            int next = 0;
            for (int k = 0; k < typed.count(); k = next) {
                next = k + 1;
                int sign = typed.element(k);
                if (conditionDue && Letters.isLetter(sign)) {
                    next = Letters.lettersEnd(typed, k, typed.count());
                    closeCondition(book.words().topicsOf(Letters.word(typed, k, next)));
                } else if (sign != BLANK && !(conditionDue ? opens(sign) : goesOn(sign))) {
                    return -1 - k;
                }
            }
            if (conditionDue || level > 0) {
                return -1 - typed.count();
            }
            return found[0] | joined[0];
        }

        private void beginLevel() {
            found[level] = 0;
            joined[level] = everyTopic;
            negated[level] = false;
            conditionDue = true;
        }

        private void closeCondition(int topics) {
            joined[level] &= negated[level] ? everyTopic & ~topics : topics;
            negated[level] = false;
            conditionDue = false;
        }

        /** Takes a sign that begins a condition: whether it is one. */
        private boolean opens(int sign) {
            if (sign == '!') {
                negated[level] = !negated[level];
                return true;
            }
            if (sign == '(' && level < QUERY_MOST) {
                level++;
                beginLevel();
                return true;
            }
            return false;
        }

        /** Takes a sign that may stand behind a condition: whether it is one. */
        private boolean goesOn(int sign) {
            if (sign == '&') {
                conditionDue = true;
                return true;
            }
            if (sign == '|') {
                found[level] |= joined[level];
                joined[level] = everyTopic;
                conditionDue = true;
                return true;
            }
            if (sign == ')' && level > 0) {
                int inside = found[level] | joined[level];
                level--;
                closeCondition(inside);
                return true;
            }
            return false;
        }
    }

    /** The lines of the topic that was shown last. */
    private static final class Screen {
        /** No byte of a body gives more than one line, or more than four signs. */
        private static final int LINES_ROOM = BODY_MOST + 1;
        private static final int SIGNS_ROOM = 4 * BODY_MOST + 4;

        private final Row signs;
        private final Row part;
        private final int[] starts;
        private int lines;
        private int width;

        Screen() {
            signs = new Row(SIGNS_ROOM);
            part = new Row(SIGNS_ROOM);
            starts = new int[LINES_ROOM];
            lines = 0;
            width = 0;
        }

        int lines() {
            return lines;
        }

        int width() {
            return width;
        }

        int shown(int line, int place) {
            if (line < 0 || line >= lines || place < 0) {
                return 0;
            }
            int finish = line + 1 < lines ? starts[line + 1] : signs.count();
            return place < finish - starts[line] ? signs.element(starts[line] + place) : 0;
        }

        void lay(Book book, int topic, int newWidth) {
            width = newWidth;
            lines = 0;
            signs.shorten(0);
            part.shorten(0);
            boolean isFirst = true;
            for (int k = book.bodyStart(topic); k < book.bodyEnd(topic); k++) {
                if (isFirst) {
                    beginParagraph();
                }
                int sign = book.bodies().element(k);
                isFirst = sign == LINE_END;
                if (sign == LINK) {
                    k++;
                    appendLink(book.name(book.bodies().element(k)));
                } else if (sign == BLANK || sign == LINE_END) {
                    layPart();
                } else if (sign != EMPHASIS) {
                    part.append(sign);
                }
            }
        }

        private void beginParagraph() {
            if (lines > 0) {
                beginLine();
            }
            beginLine();
        }

        private void beginLine() {
            if (lines < LINES_ROOM) {
                starts[lines] = signs.count();
                lines++;
            }
        }

        private int lineLength() {
            return lines == 0 ? 0 : signs.count() - starts[lines - 1];
        }

        private void appendLink(long name) {
            part.append('[');
            int length = Letters.length(name);
            for (int k = 0; k < length; k++) {
                part.append(Letters.letter(name, k));
            }
            part.append(']');
        }

        private void layPart() {
            if (part.count() == 0) {
                return;
            }
            if (lineLength() > 0 && lineLength() + 1 + part.count() > width) {
                beginLine();
            } else if (lineLength() > 0) {
                signs.append(BLANK);
            }
            for (int k = 0; k < part.count(); k++) {
                if (lineLength() >= width) {
                    beginLine();
                }
                signs.append(part.element(k));
            }
            part.shorten(0);
        }
    }
}

import java.util.ArrayList;
import java.util.NoSuchElementException;

/** Brokers in a tree that bring notes to the clients who subscribed to such ones. */
public final class BrokerTree {
    private static final int BROKERS = 6;
    private static final int CLIENTS = 8;
    private static final int MOST_SUBSCRIPTIONS = 16;
    private static final int MOST_CONDITIONS = 3;
    private static final int MOST_DRAFT = 30;
    private static final int MOST_TAKEN = 200;
    /** An object is used for 512 calls, so there are never more notes that count. */
    private static final int MOST_NOTES = 512;

    private static final int TELL = 0;
    private static final int DROP = 1;
    private static final int NOTE = 2;
    private static final int MESSAGE_KINDS = 3;

    private static final int COUNTED_NOTES = 0;
    private static final int COUNTED_BROUGHT = 1;
    private static final int COUNTED_TELLS = 2;
    private static final int COUNTED_DROPS = 3;
    private static final int COUNTED_KINDS = 4;

    private static final int LEAST_NUMBER = -999;
    private static final int MOST_NUMBER = 999;
    /** What stands for a number that a note does not have: it lies outside of all that a condition lets pass. */
    private static final int NO_NUMBER = 1000;

    private static final int MOST_LETTERS = 4;
    private static final int LETTER_BITS = 5;
    /** What stands for a word that a note does not have: it lies below the codes of all words. */
    private static final int NO_WORD = 0;
    private static final int MOST_WORD = (1 << MOST_LETTERS * LETTER_BITS) - 1;

    private static final int UNREADABLE = Integer.MIN_VALUE;
    private static final int NONE = -1;

    private final char[] draft = new char[MOST_DRAFT];
    private int draftSize;

    private final Link[] links = new Link[BROKERS * BROKERS];
    private final Queue[] inboxes = new Queue[CLIENTS];

    private final Catalog catalog = new Catalog();
    private final int[] subscriber = new int[MOST_SUBSCRIPTIONS];
    private final int[] wanted = new int[MOST_SUBSCRIPTIONS];
    private final boolean[] ended = new boolean[MOST_SUBSCRIPTIONS];
    private int subscriptions;

    private final ArrayList<Note> notes = new ArrayList<>();
    private final int[] counted = new int[COUNTED_KINDS];

    /** Rows that settling uses again and again, so that it makes no objects. */
    private final Row offered = new Row();
    private final Row need = new Row();

    public BrokerTree(int shape) {
        for (int broker = 1; broker < BROKERS; broker++) {
            int neighbour = ((shape >>> 3 * (broker - 1)) & 7) % broker;
            links[broker * BROKERS + neighbour] = new Link(broker, neighbour);
            links[neighbour * BROKERS + broker] = new Link(neighbour, broker);
        }
        for (int client = 0; client < CLIENTS; client++) {
            inboxes[client] = new Queue();
        }
    }

    public boolean write(char c) {
        if (c < 32 || c > 126 || draftSize >= MOST_DRAFT) {
            return false;
        }
        draft[draftSize] = c;
        draftSize++;
        return true;
    }

    public int subscribe(int client) throws IllegalArgumentException, IllegalStateException {
        Filter filter = Filter.parse(draft, 0, draftSize);
        draftSize = 0;
        if (!isClient(client) || filter == null) {
            throw new IllegalArgumentException();
        }
        if (subscriptions >= MOST_SUBSCRIPTIONS) {
            throw new IllegalStateException();
        }
        int number = subscriptions;
        subscriber[number] = client;
        wanted[number] = catalog.numberOf(filter);
        subscriptions++;
        settle(brokerOf(client));
        return number;
    }

    public void unsubscribe(int subscription) throws NoSuchElementException {
        if (subscription < 0 || subscription >= subscriptions || ended[subscription]) {
            throw new NoSuchElementException();
        }
        ended[subscription] = true;
        settle(brokerOf(subscriber[subscription]));
    }

    public int publish(int client, int a, int b) throws IllegalArgumentException {
        int c = draftSize == 0 ? NO_WORD : Texts.word(draft, 0, draftSize);
        draftSize = 0;
        if (!isClient(client) || !isNumberOrNone(a) || !isNumberOrNone(b) || c == UNREADABLE) {
            throw new IllegalArgumentException();
        }
        int number = notes.size();
        if (number >= MOST_NOTES) {
            // Behind the calls that an object is made for; what is kept stays bounded.
            return NONE;
        }
        notes.add(new Note(a, b, c));
        handle(number, brokerOf(client), NONE);
        return number;
    }

    public int take(int from, int to) throws NoSuchElementException {
        Link link = linkBetween(from, to);
        if (link == null || link.line.size() == 0) {
            throw new NoSuchElementException();
        }
        return takeFirst(link);
    }

    public int waiting(int from, int to) {
        Link link = linkBetween(from, to);
        return link == null ? NONE : link.line.size();
    }

    public int run() {
        for (int taken = 0; taken < MOST_TAKEN; taken++) {
            Link link = firstBusyLink();
            if (link == null) {
                return taken;
            }
            takeFirst(link);
        }
        return MOST_TAKEN;
    }

    public int read(int client) throws IllegalArgumentException, NoSuchElementException {
        if (!isClient(client)) {
            throw new IllegalArgumentException();
        }
        Queue inbox = inboxes[client];
        if (inbox.size() == 0) {
            throw new NoSuchElementException();
        }
        return inbox.removeFirst();
    }

    public int filters(int broker, int neighbour, boolean heard) {
        Link link = heard ? linkBetween(neighbour, broker) : linkBetween(broker, neighbour);
        if (link == null) {
            return NONE;
        }
        return heard ? link.heard.size() : link.told.size();
    }

    public boolean covers() throws IllegalArgumentException {
        int blank = Texts.find(' ', draft, 0, draftSize);
        Filter first = Filter.parse(draft, 0, blank);
        Filter second = Filter.parse(draft, blank + 1, draftSize);
        draftSize = 0;
        if (first == null || second == null) {
            throw new IllegalArgumentException();
        }
        return first.includes(second);
    }

    public int count(int what) {
        return what < 0 || what >= COUNTED_KINDS ? NONE : counted[what];
    }

    private static boolean isClient(int client) {
        return client >= 0 && client < CLIENTS;
    }

    private static boolean isNumberOrNone(int value) {
        return value >= LEAST_NUMBER && value <= NO_NUMBER;
    }

    private static int brokerOf(int client) {
        return client % BROKERS;
    }

    /** The link from a broker to a neighbour; null when there is none such. */
    private Link linkBetween(int from, int to) {
        if (from < 0 || from >= BROKERS || to < 0 || to >= BROKERS) {
            return null;
        }
        return links[from * BROKERS + to];
    }

    /** The links lie by from, and then by to, as run asks for them. */
    private Link firstBusyLink() {
        for (int k = 0; k < links.length; k++) {
            Link link = links[k];
            if (link != null && link.line.size() > 0) {
                return link;
            }
        }
        return null;
    }

    private int takeFirst(Link link) {
        int message = link.line.removeFirst();
        int kind = message % MESSAGE_KINDS;
        int number = message / MESSAGE_KINDS;
        if (kind == NOTE) {
            handle(number, link.to, link.from);
            return kind;
        }
        if (kind == TELL) {
            link.heard.add(number);
        } else {
            link.heard.remove(number);
        }
        settle(link.to);
        return kind;
    }

    private void settle(int broker) {
        for (int neighbour = 0; neighbour < BROKERS; neighbour++) {
            Link link = linkBetween(broker, neighbour);
            if (link != null) {
                gatherOffered(link);
                gatherNeed();
                tellNeeded(link);
                dropNotNeeded(link);
            }
        }
    }

    /** All filters that the neighbour could be told; of those that are alike only the first one counts. */
    private void gatherOffered(Link link) {
        offered.clear();
        for (int k = 0; k < subscriptions; k++) {
            if (!ended[k] && brokerOf(subscriber[k]) == link.from) {
                offered.add(wanted[k]);
            }
        }
        for (int other = 0; other < BROKERS; other++) {
            Link back = linkBetween(other, link.from);
            if (back != null && other != link.to) {
                offered.addAll(back.heard);
            }
        }
    }

    private void gatherNeed() {
        need.clear();
        for (int k = 0; k < offered.size(); k++) {
            int filter = offered.get(k);
            if (!catalog.hasCoverer(filter, offered)) {
                need.add(filter);
            }
        }
    }

    private void tellNeeded(Link link) {
        for (int k = 0; k < need.size(); k++) {
            int filter = need.get(k);
            if (!link.told.has(filter)) {
                link.told.add(filter);
                put(link, TELL, filter);
                counted[COUNTED_TELLS]++;
            }
        }
    }

    private void dropNotNeeded(Link link) {
        int kept = 0;
        for (int left = link.told.size(); left > 0; left--) {
            int filter = link.told.get(kept);
            if (need.has(filter)) {
                kept++;
            } else {
                link.told.remove(filter);
                put(link, DROP, filter);
                counted[COUNTED_DROPS]++;
            }
        }
    }

    private void handle(int number, int broker, int cameFrom) {
        if (number < 0 || number >= notes.size()) {
            return;
        }
        Note note = notes.get(number);
        for (int client = 0; client < CLIENTS; client++) {
            if (brokerOf(client) == broker && wants(client, note)) {
                inboxes[client].add(number);
                counted[COUNTED_BROUGHT]++;
            }
        }
        for (int neighbour = 0; neighbour < BROKERS; neighbour++) {
            Link there = linkBetween(broker, neighbour);
            Link back = linkBetween(neighbour, broker);
            if (there != null && back != null && neighbour != cameFrom && catalog.anyMatches(back.heard, note)) {
                put(there, NOTE, number);
                counted[COUNTED_NOTES]++;
            }
        }
    }

    private boolean wants(int client, Note note) {
        for (int k = 0; k < subscriptions; k++) {
            if (!ended[k] && subscriber[k] == client && catalog.matches(wanted[k], note)) {
                return true;
            }
        }
        return false;
    }

    private static void put(Link link, int kind, int number) {
        link.line.add(number * MESSAGE_KINDS + kind);
    }

    /** One way between two neighbours: what goes along it, and what its two ends remember of that. */
    private static final class Link {
        final int from;
        final int to;
        final Row told = new Row();
        final Row heard = new Row();
        final Queue line = new Queue();

        Link(int from, int to) {
            this.from = from;
            this.to = to;
        }
    }

    /** Numbers of the catalog in order, each at most once. */
    private static final class Row {
        private final int[] items = new int[MOST_SUBSCRIPTIONS];
        private int size;
        private int members;

        int size() {
            return size;
        }

        int get(int place) {
            return place < 0 || place >= size ? NONE : items[place];
        }

        boolean has(int item) {
            return item >= 0 && item < MOST_SUBSCRIPTIONS && (members >> item & 1) != 0;
        }

        int members() {
            return members;
        }

        void clear() {
            size = 0;
            members = 0;
        }

        void add(int item) {
            if (item < 0 || item >= MOST_SUBSCRIPTIONS || size >= items.length || has(item)) {
                return;
            }
            items[size] = item;
            size++;
            members |= 1 << item;
        }

        void addAll(Row other) {
            for (int k = 0; k < other.size; k++) {
                add(other.items[k]);
            }
        }

        void remove(int item) {
            if (!has(item)) {
                return;
            }
            int kept = 0;
            for (int k = 0; k < size; k++) {
                if (items[k] != item) {
                    items[kept] = items[k];
                    kept++;
                }
            }
            size = kept;
            members &= ~(1 << item);
        }
    }

    /** Numbers that leave in the order in which they came; a ring whose length is a power of two. */
    private static final class Queue {
        private int[] items = new int[16];
        private int first;
        private int size;

        int size() {
            return size;
        }

        void add(int item) {
            if (size >= items.length) {
                grow();
            }
            items[(first + size) & (items.length - 1)] = item;
            size++;
        }

        int removeFirst() {
            if (size == 0) {
                return NONE;
            }
            int item = items[first];
            first = (first + 1) & (items.length - 1);
            size--;
            return item;
        }

        private void grow() {
            int[] longer = new int[2 * items.length];
            for (int k = 0; k < size; k++) {
                longer[k] = items[(first + k) & (items.length - 1)];
            }
            items = longer;
            first = 0;
        }
    }

    private static final class Note {
        final int a;
        final int b;
        final int c;

        Note(int a, int b, int c) {
            this.a = a;
            this.b = b;
            this.c = c;
        }
    }

    /**
     * The filters that were ever subscribed to, no two of them alike: a filter that is alike
     * an earlier one bears its number, so that being alike is being the same number.
     */
    private static final class Catalog {
        private final ArrayList<Filter> known = new ArrayList<>();
        /** Bit g of coverers[f] is set when the filter g covers the filter f and is another one. */
        private final int[] coverers = new int[MOST_SUBSCRIPTIONS];

        int numberOf(Filter filter) {
            int size = known.size();
            for (int k = 0; k < size; k++) {
                if (known.get(k).includes(filter) && filter.includes(known.get(k))) {
                    return k;
                }
            }
            if (size >= MOST_SUBSCRIPTIONS) {
                return NONE;
            }
            for (int k = 0; k < size; k++) {
                if (known.get(k).includes(filter)) {
                    coverers[size] |= 1 << k;
                }
                if (filter.includes(known.get(k))) {
                    coverers[k] |= 1 << size;
                }
            }
            known.add(filter);
            return size;
        }

        boolean hasCoverer(int filter, Row row) {
            return filter >= 0 && filter < MOST_SUBSCRIPTIONS && (coverers[filter] & row.members()) != 0;
        }

        boolean matches(int filter, Note note) {
            return filter >= 0 && filter < known.size() && known.get(filter).matches(note);
        }

        boolean anyMatches(Row row, Note note) {
            for (int k = 0; k < row.size(); k++) {
                if (matches(row.get(k), note)) {
                    return true;
                }
            }
            return false;
        }
    }

    /**
     * What a filter lets pass, for each attribute by itself: it matches a note when all three
     * spans have what the note has there, so one filter covers another one span by span.
     */
    private static final class Filter {
        private final Span a = new Span(LEAST_NUMBER, NO_NUMBER);
        private final Span b = new Span(LEAST_NUMBER, NO_NUMBER);
        private final Span c = new Span(NO_WORD, MOST_WORD);

        /** The filter that stands in a part of a text; null when none stands there. */
        static Filter parse(char[] text, int from, int to) {
            Filter filter = new Filter();
            int start = from;
            for (int k = 0; k < MOST_CONDITIONS; k++) {
                int end = Texts.find('&', text, start, to);
                if (!filter.addCondition(text, start, end)) {
                    return null;
                }
                if (end == to) {
                    filter.tighten();
                    return filter;
                }
                start = end + 1;
            }
            return null;
        }

        boolean matches(Note note) {
            return a.has(note.a) && b.has(note.b) && c.has(note.c);
        }

        /** A filter that matches no note is covered by every one. */
        boolean includes(Filter other) {
            return other.isEmpty() || a.includes(other.a) && b.includes(other.b) && c.includes(other.c);
        }

        private boolean isEmpty() {
            return a.isEmpty() || b.isEmpty() || c.isEmpty();
        }

        private void tighten() {
            a.tighten();
            b.tighten();
            c.tighten();
        }

        private boolean addCondition(char[] text, int from, int to) {
            if (from < 0 || to > text.length || to - from < 3) {
                return false;
            }
            char attribute = text[from];
            char sign = text[from + 1];
            if (attribute == 'c') {
                return narrowWord(sign, Texts.word(text, from + 2, to), to - from - 2);
            }
            if (attribute == 'a' || attribute == 'b') {
                return narrowNumber(attribute == 'a' ? a : b, sign, Texts.number(text, from + 2, to));
            }
            return false;
        }

        private static boolean narrowNumber(Span span, int sign, int number) {
            if (number == UNREADABLE) {
                return false;
            }
            span.keep(LEAST_NUMBER, MOST_NUMBER);
            switch (sign) {
                case '=':
                    span.keep(number, number);
                    return true;
                case '!':
                    span.exclude(number);
                    return true;
                case '<':
                    span.keep(LEAST_NUMBER, number - 1);
                    return true;
                case '>':
                    span.keep(number + 1, MOST_NUMBER);
                    return true;
                case '[':
                    span.keep(number, MOST_NUMBER);
                    return true;
                case ']':
                    span.keep(LEAST_NUMBER, number);
                    return true;
                default:
                    return false;
            }
        }

        private boolean narrowWord(int sign, int word, int letters) {
            if (word == UNREADABLE) {
                return false;
            }
            c.keep(NO_WORD + 1, MOST_WORD);
            switch (sign) {
                case '=':
                    c.keep(word, word);
                    return true;
                case '!':
                    c.exclude(word);
                    return true;
                case '^':
                    c.keep(word, word | Texts.endings(letters));
                    return true;
                default:
                    return false;
            }
        }
    }

    /** Those values of one attribute, that of having none among them, that a filter lets pass. */
    private static final class Span {
        private int least;
        private int most;
        private final int[] excluded = new int[MOST_CONDITIONS];
        private int exclusions;

        Span(int least, int most) {
            this.least = least;
            this.most = most;
        }

        void keep(int from, int to) {
            least = Math.max(least, from);
            most = Math.min(most, to);
        }

        void exclude(int value) {
            if (exclusions < excluded.length) {
                excluded[exclusions] = value;
                exclusions++;
            }
        }

        /**
         * Moves the ends to values that pass, because includes goes by the ends; a step for each
         * exclusion is enough. An end of words may come to lie on a code that is no word, which does
         * no harm: a beginning of up to three letters has so many words that no exclusions leave only
         * those of a longer one.
         */
        void tighten() {
            for (int k = 0; k < exclusions; k++) {
                if (!has(least)) {
                    least++;
                }
                if (!has(most)) {
                    most--;
                }
            }
        }

        boolean isEmpty() {
            return least > most;
        }

        boolean has(int value) {
            if (value < least || value > most) {
                return false;
            }
            for (int k = 0; k < exclusions; k++) {
                if (excluded[k] == value) {
                    return false;
                }
            }
            return true;
        }

        /** Whether all values of another span, which is not empty, are in this one. */
        boolean includes(Span other) {
            if (other.least < least || other.most > most) {
                return false;
            }
            for (int k = 0; k < exclusions; k++) {
                if (other.has(excluded[k])) {
                    return false;
                }
            }
            return true;
        }
    }

    /** Reads the small parts of texts. */
    private static final class Texts {
        /** The place of the first such character from a place on; the end when there is none. */
        static int find(char sought, char[] text, int from, int to) {
            for (int k = from; k < to; k++) {
                if (text[k] == sought) {
                    return k;
                }
            }
            return to;
        }

        static int number(char[] text, int from, int to) {
            boolean negative = from < to && text[from] == '-';
            int start = negative ? from + 1 : from;
            if (to - start < 1 || to - start > 3) {
                return UNREADABLE;
            }
            int number = 0;
            for (int k = start; k < to; k++) {
                char digit = text[k];
                if (digit < '0' || digit > '9') {
                    return UNREADABLE;
                }
                number = 10 * number + (digit - '0');
            }
            return negative ? -number : number;
        }

        /**
         * A word as a number: its letters, 1 to 26, from the high bits on, so that the words
         * with the same beginning lie side by side.
         */
        static int word(char[] text, int from, int to) {
            if (to - from < 1 || to - from > MOST_LETTERS) {
                return UNREADABLE;
            }
            int word = 0;
            for (int k = from; k < to; k++) {
                char letter = text[k];
                if (letter < 'a' || letter > 'z') {
                    return UNREADABLE;
                }
                word = word << LETTER_BITS | (letter - 'a' + 1);
            }
            return word << LETTER_BITS * (MOST_LETTERS - (to - from));
        }

        /** The bits in which the words that begin with so many letters differ. */
        static int endings(int letters) {
            return (1 << LETTER_BITS * (MOST_LETTERS - letters)) - 1;
        }
    }
}

/** One test for each sentence of the document's promises that names a boundary or a refusal; the sentence stands above it. */
public final class PromiseEdgesTest {
    private static final String NO_ARGUMENT = Checks.NO_ARGUMENT;
    private static final String NO_STATE = Checks.NO_STATE;
    private static final String NO_ELEMENT = Checks.NO_ELEMENT;
    private static final int NOTHING = Checks.NOTHING;
    private static final int CHAIN = Checks.CHAIN;
    private static final int STAR = Checks.STAR;
    private static final int[] NO_CLIENTS = {-1, 8, -7, 9, 12, 100, Integer.MIN_VALUE, Integer.MAX_VALUE};
    private static final int[] NO_NUMBERS = {-1000, 1001, -1001, -10000, Integer.MIN_VALUE, Integer.MAX_VALUE};
    /** With their neighbours in CHAIN these are no pairs: the same one twice, too far, too small, too large. */
    private static final int[][] NO_PAIRS = {
        {0, 0}, {5, 5}, {0, 2}, {2, 0}, {0, 5}, {5, 0}, {-1, 0}, {0, -1}, {-1, -1}, {5, 6}, {6, 5}, {6, 6}, {6, 0}, {1, -6},
        {-1, 7}, {0, 7}, {Integer.MIN_VALUE, 0}, {0, Integer.MIN_VALUE}, {Integer.MAX_VALUE, 0}, {5, Integer.MAX_VALUE}
    };

    public static void main(String[] args) {
        newObject();
        writeCharacters();
        writeFull();
        draftIsEmptied();
        draftIsKept();
        subscribeNoClient();
        subscribeNoFilter();
        subscribeFull();
        subscribeEmpties();
        unsubscribeNone();
        unsubscribeEnded();
        unsubscribeKeepsNotes();
        publishNoClient();
        publishNumbers();
        publishWords();
        publishEmpties();
        publishNothing();
        publishToItself();
        takeNothing();
        takeWithoutEffect();
        waitingNone();
        waitingLong();
        runNothing();
        runNearly200();
        runWhatArises();
        runLeastFrom();
        readNoClient();
        readNone();
        readRound();
        filtersNone();
        coversWrong();
        coversFull();
        coversEmpties();
        countOthers();
        countEach();
        Checks.end("PromiseEdgesTest");
    }

    private static void due(String what, Object got, Object want) {
        Checks.due(what, got, want);
    }

    /** 1: "No subscriptions, no messages." */
    private static void newObject() {
        for (int shape : new int[] {STAR, CHAIN, -1, Integer.MIN_VALUE, Integer.MAX_VALUE}) {
            BrokerTree tree = new BrokerTree(shape);
            String state = Checks.state(tree).replace("-1,-1,-1", "").replace("0,0,0", "").replace("0", "");
            due("1: nothing in shape " + shape, state.trim(), "");
            due("1: no subscription", Checks.unsubscribe(tree, 0), NO_ELEMENT);
            due("1: no message", tree.run(), 0);
            for (int client = 0; client < 8; client++) {
                due("1: no note", Checks.read(tree, client), NO_ELEMENT);
            }
            Checks.dueEmptyDraft("1", tree);
        }
        BrokerTree first = new BrokerTree(STAR);
        Checks.subscribe(first, 0, "a=1");
        first.write('x');
        BrokerTree second = new BrokerTree(STAR);
        due("1: no subscription of another object", Checks.unsubscribe(second, 0), NO_ELEMENT);
        due("1: no message of another object", second.run(), 0);
        Checks.dueEmptyDraft("1: of another object", second);
    }

    /** 2: "Appends a character (32 .. 126) to the draft ..: true; false when .. it is none such." */
    private static void writeCharacters() {
        for (int c = 0; c <= 65535; c++) {
            BrokerTree tree = new BrokerTree(STAR);
            boolean such = c >= 32 && c <= 126;
            due("2: character " + c, tree.write((char) c), such);
            if (c < 300) {
                due("2: appended " + c, Checks.covers(tree, "a=1 a=1"), such ? NO_ARGUMENT : "true");
            }
        }
    }

    /** 2: "false when there are 30": and what was written before stays as it was. */
    private static void writeFull() {
        BrokerTree tree = new BrokerTree(STAR);
        String thirty = "a[-999&b]-999&c!ab a=-99&b=-99";
        due("2: a text of 30", thirty.length(), 30);
        for (int k = 0; k < 30; k++) {
            due("2: character " + (k + 1), tree.write(thirty.charAt(k)), true);
        }
        for (int c = 0; c < 256; c++) {
            due("2: character 31", tree.write((char) c), false);
        }
        due("2: the 30 stand", Checks.answer(tree::covers), false);
        due("2: again", Checks.covers(tree, "a[-99&b]-99&c!ab c=x&a=1&b=-99"), true);
    }

    /** 2: "(which any of the calls that take it empties)". */
    private static void draftIsEmptied() {
        BrokerTree tree = new BrokerTree(STAR);
        due("2: subscribe", Checks.subscribe(tree, 0, "a=1"), 0);
        Checks.dueEmptyDraft("2: subscribe", tree);
        due("2: publish", Checks.publish(tree, 0, 1, 1, "abcd"), 0);
        Checks.dueEmptyDraft("2: publish", tree);
        due("2: covers", Checks.covers(tree, "a=1 a=1"), true);
        Checks.dueEmptyDraft("2: covers", tree);
        due("2: twice in a row", Checks.answer(() -> tree.subscribe(0)), NO_ARGUMENT);
        due("2: a longer one first", Checks.subscribe(tree, 2, "c=abcd"), 1);
        due("2: a shorter one then", Checks.subscribe(tree, 3, "c=ab"), 2);
        Checks.publish(tree, 2, 0, 0, "abcd");
        Checks.publish(tree, 3, 0, 0, "ab");
        due("2: nothing is left of the longer ones", Checks.read(tree, 2) + Checks.read(tree, 3), "12");
    }

    /** The same sentence: the calls that do not take it leave it, also those that throw. */
    private static void draftIsKept() {
        BrokerTree tree = new BrokerTree(STAR);
        Checks.subscribe(tree, 1, "a=1");
        Checks.publish(tree, 1, 1, 1, "");
        Checks.text(tree, "b=1 b");
        Checks.take(tree, 1, 0);
        Checks.take(tree, 1, 0);
        tree.run();
        tree.waiting(0, 1);
        tree.waiting(0, 6);
        Checks.read(tree, 1);
        Checks.read(tree, 1);
        Checks.read(tree, 8);
        Checks.unsubscribe(tree, 0);
        Checks.unsubscribe(tree, 0);
        tree.filters(0, 1, true);
        tree.filters(0, 6, false);
        tree.count(0);
        tree.count(4);
        tree.write((char) 127);
        due("2: kept", Checks.covers(tree, "=1"), true);
    }

    /** 3: "IllegalArgumentException when there is no such client". */
    private static void subscribeNoClient() {
        BrokerTree tree = new BrokerTree(CHAIN);
        String before = Checks.state(tree);
        for (int client : NO_CLIENTS) {
            due("3: client " + client, Checks.subscribe(tree, client, "a=1"), NO_ARGUMENT);
        }
        due("3: nothing came of it", Checks.state(tree), before);
        due("3: first client", Checks.subscribe(tree, 0, "a=1"), 0);
        due("3: last client", Checks.subscribe(tree, 7, "a=1"), 1);
    }

    /** 3: "or the draft is no filter". */
    private static void subscribeNoFilter() {
        BrokerTree tree = new BrokerTree(CHAIN);
        String before = Checks.state(tree);
        for (String text : new String[] {"", " ", "a", "a=", "a=1 ", " a=1", "a=1 a=1", "abcd", "a=1&", "a=1&b=1&c=x&a=1"}) {
            due("3: filter " + text, Checks.subscribe(tree, 0, text), NO_ARGUMENT);
        }
        due("3: nothing came of it", Checks.state(tree), before);
        due("3: no number is lost", Checks.subscribe(tree, 0, "a=1"), 0);
    }

    /** 3: "IllegalStateException when 16 were made." */
    private static void subscribeFull() {
        BrokerTree tree = new BrokerTree(STAR);
        for (int k = 0; k < 16; k++) {
            due("3: number", Checks.subscribe(tree, 7 - k % 8, "c=" + (char) ('a' + k)), k);
        }
        due("3: 17th", Checks.subscribe(tree, 0, "c=z"), NO_STATE);
        due("3: 17th, alike another one", Checks.subscribe(tree, 7, "c=a"), NO_STATE);
        Checks.unsubscribe(tree, 0);
        Checks.unsubscribe(tree, 15);
        due("3: ended ones were made", Checks.subscribe(tree, 0, "c=z"), NO_STATE);
        due("3: no client and full", Checks.subscribe(tree, 8, "c=z"), NO_ARGUMENT);
        due("3: no filter and full", Checks.subscribe(tree, 0, ""), NO_ARGUMENT);
        tree.run();
        Checks.publish(tree, 3, 0, 0, "z");
        due("3: nobody subscribed to z", tree.count(0) + tree.count(1), 0);
    }

    /** 3: "The draft .. is empty then (also when it throws)". */
    private static void subscribeEmpties() {
        BrokerTree tree = new BrokerTree(STAR);
        due("3: subscribes", Checks.subscribe(tree, 0, "a=1"), 0);
        Checks.dueEmptyDraft("3: subscribed", tree);
        due("3: no client", Checks.subscribe(tree, 8, "a=1"), NO_ARGUMENT);
        Checks.dueEmptyDraft("3: no client", tree);
        due("3: no filter", Checks.subscribe(tree, 0, "a=1 a="), NO_ARGUMENT);
        Checks.dueEmptyDraft("3: no filter", tree);
        due("3: a full draft", Checks.subscribe(tree, 0, "x".repeat(30)), NO_ARGUMENT);
        Checks.dueEmptyDraft("3: a full draft", tree);
        for (int k = 1; k < 16; k++) {
            Checks.subscribe(tree, 0, "a=1");
        }
        due("3: full", Checks.subscribe(tree, 0, "a=1"), NO_STATE);
        Checks.dueEmptyDraft("3: full", tree);
    }

    /** 4: "NoSuchElementException when there is none such". */
    private static void unsubscribeNone() {
        BrokerTree tree = new BrokerTree(STAR);
        due("4: none yet", Checks.unsubscribe(tree, 0), NO_ELEMENT);
        Checks.subscribe(tree, 0, "a=1");
        Checks.subscribe(tree, 5, "a=2");
        String before = Checks.state(tree);
        for (int none : new int[] {-1, 2, 3, 15, 16, 17, Integer.MIN_VALUE, Integer.MAX_VALUE}) {
            due("4: number " + none, Checks.unsubscribe(tree, none), NO_ELEMENT);
        }
        due("4: nothing came of it", Checks.state(tree), before);
        due("4: the last one", Checks.unsubscribe(tree, 1), "done");
        due("4: the first one", Checks.unsubscribe(tree, 0), "done");
    }

    /** 4: "or it has ended." */
    private static void unsubscribeEnded() {
        BrokerTree tree = new BrokerTree(STAR);
        for (int k = 0; k < 16; k++) {
            Checks.subscribe(tree, k % 8, "a=" + k);
        }
        for (int k = 15; k >= 0; k--) {
            due("4: ends", Checks.unsubscribe(tree, k), "done");
            due("4: has ended", Checks.unsubscribe(tree, k), NO_ELEMENT);
        }
        tree.run();
        String before = Checks.state(tree);
        due("4: has long ended", Checks.unsubscribe(tree, 7), NO_ELEMENT);
        due("4: the 17th", Checks.unsubscribe(tree, 16), NO_ELEMENT);
        due("4: nothing came of it", Checks.state(tree), before);
        due("4: nothing is told any more", tree.filters(0, 1, false) + tree.filters(1, 0, false), 0);
    }

    /** 4: "A subscription ends (notes that were brought stay to be read)". */
    private static void unsubscribeKeepsNotes() {
        BrokerTree tree = new BrokerTree(STAR);
        Checks.subscribe(tree, 1, "a=1");
        tree.run();
        Checks.publish(tree, 7, 1, 0, "");
        Checks.publish(tree, 0, 1, 0, "");
        Checks.unsubscribe(tree, 0);
        due("4: a note on its way, and five DROPs", tree.run(), 6);
        due("4: brought before", Checks.read(tree, 1), 0);
        due("4: not brought behind the end", Checks.read(tree, 1), NO_ELEMENT);
        due("4: one was brought", tree.count(1), 1);
    }

    /** 5: "IllegalArgumentException when there is no such client". */
    private static void publishNoClient() {
        BrokerTree tree = subscribed("a[-999");
        String before = Checks.state(tree);
        for (int client : NO_CLIENTS) {
            due("5: client " + client, Checks.publish(tree, client, 1, 1, ""), NO_ARGUMENT);
        }
        due("5: nothing came of it", Checks.state(tree), before);
        due("5: first client", Checks.publish(tree, 0, 1, 1, ""), 0);
        due("5: last client", Checks.publish(tree, 7, 1, 1, ""), 1);
    }

    /** 5: "a or b is not -999 .. 1000". */
    private static void publishNumbers() {
        BrokerTree tree = subscribed("a[-999");
        String before = Checks.state(tree);
        for (int number : NO_NUMBERS) {
            due("5: a is " + number, Checks.publish(tree, 0, number, 0, ""), NO_ARGUMENT);
            due("5: b is " + number, Checks.publish(tree, 0, 0, number, ""), NO_ARGUMENT);
            due("5: both are " + number, Checks.publish(tree, 0, number, number, ""), NO_ARGUMENT);
        }
        due("5: nothing came of it", Checks.state(tree), before);
        int made = 0;
        for (int number : new int[] {-999, -998, 0, 998, 999, 1000}) {
            due("5: a is " + number, Checks.publish(tree, 0, number, 0, ""), made);
            due("5: b is " + number, Checks.publish(tree, 0, 0, number, ""), made + 1);
            made += 2;
        }
    }

    /** 5: "or the draft is no word." */
    private static void publishWords() {
        BrokerTree tree = subscribed("a[-999");
        String before = Checks.state(tree);
        for (String text : new String[] {"abcde", " ", "a ", " a", "A", "aB", "1", "a1", "-", "`", "{", "a=1", "a".repeat(30)}) {
            due("5: word " + text, Checks.publish(tree, 0, 0, 0, text), NO_ARGUMENT);
        }
        due("5: nothing came of it", Checks.state(tree), before);
        String[] words = {"", "a", "z", "az", "zaz", "zzzz", "aaaa"};
        for (int k = 0; k < words.length; k++) {
            due("5: word " + words[k], Checks.publish(tree, 0, 0, 0, words[k]), k);
        }
    }

    /** 5: "and the draft, which is empty then (also when it throws)". */
    private static void publishEmpties() {
        BrokerTree tree = new BrokerTree(STAR);
        due("5: publishes", Checks.publish(tree, 0, 1, 1, "abcd"), 0);
        Checks.dueEmptyDraft("5: published", tree);
        due("5: no client", Checks.publish(tree, 8, 1, 1, "abcd"), NO_ARGUMENT);
        Checks.dueEmptyDraft("5: no client", tree);
        due("5: no a", Checks.publish(tree, 0, 1001, 1, "abcd"), NO_ARGUMENT);
        Checks.dueEmptyDraft("5: no a", tree);
        due("5: no b", Checks.publish(tree, 0, 1, -1000, "abcd"), NO_ARGUMENT);
        Checks.dueEmptyDraft("5: no b", tree);
        due("5: no word", Checks.publish(tree, 0, 1, 1, "abcde"), NO_ARGUMENT);
        Checks.dueEmptyDraft("5: no word", tree);
        due("5: the second one", Checks.publish(tree, 0, 1, 1, ""), 1);
    }

    /** 5: "with a, b (1000: nothing)" and "(the empty draft: nothing)". */
    private static void publishNothing() {
        String[] filters = {"a[-999", "b[-999", "c!zzzz"};
        for (int k = 0; k < 3; k++) {
            BrokerTree tree = subscribed(filters[k]);
            Checks.publish(tree, 1, k == 0 ? NOTHING : 0, k == 1 ? NOTHING : 0, k == 2 ? "" : "a");
            due("5: nothing for " + filters[k], tree.count(1), 0);
            Checks.publish(tree, 1, k == 0 ? 0 : NOTHING, k == 1 ? 0 : NOTHING, k == 2 ? "a" : "");
            due("5: only that for " + filters[k], tree.count(1), 1);
        }
        BrokerTree tree = subscribed("a!0");
        due("5: nothing at all", Checks.publish(tree, 1, NOTHING, NOTHING, ""), 0);
        due("5: nothing at all", tree.count(1), 0);
    }

    /** 5: "A client (which gets it too, if it subscribed so) publishes a note". */
    private static void publishToItself() {
        BrokerTree tree = subscribed("a=1");
        Checks.publish(tree, 1, 1, 0, "");
        due("5: itself", Checks.read(tree, 1), 0);
        Checks.publish(tree, 1, 2, 0, "");
        due("5: not so", Checks.read(tree, 1), NO_ELEMENT);
        due("5: nobody else", tree.waiting(1, 0), 0);
    }

    /** 6: "NoSuchElementException when there is no such line, or nothing in it." */
    private static void takeNothing() {
        BrokerTree tree = new BrokerTree(CHAIN);
        for (int[] pair : NO_PAIRS) {
            due("6: no line " + pair[0] + " " + pair[1], Checks.take(tree, pair[0], pair[1]), NO_ELEMENT);
        }
        due("6: nothing in it", Checks.take(tree, 0, 1), NO_ELEMENT);
        Checks.subscribe(tree, 0, "a=1");
        String before = Checks.state(tree);
        due("6: nothing the other way", Checks.take(tree, 1, 0), NO_ELEMENT);
        due("6: nothing further on", Checks.take(tree, 1, 2), NO_ELEMENT);
        due("6: still no line", Checks.take(tree, 0, 2), NO_ELEMENT);
        due("6: nothing came of it", Checks.state(tree), before);
        due("6: the only one", Checks.take(tree, 0, 1), 0);
        due("6: it was the only one", Checks.take(tree, 0, 1), NO_ELEMENT);
    }

    /** 6: "0 TELL, 1 DROP, 2 a note (also when nothing comes of it)." */
    private static void takeWithoutEffect() {
        BrokerTree tree = new BrokerTree(STAR);
        Checks.subscribe(tree, 1, "a=1");
        tree.run();
        Checks.subscribe(tree, 2, "a=1");
        due("6: TELL", Checks.take(tree, 2, 0), 0);
        due("6: only broker 1 is told of it", tree.waiting(0, 1) + " " + tree.waiting(0, 3), "1 0");
        Checks.publish(tree, 0, 1, 1, "");
        Checks.unsubscribe(tree, 1);
        due("6: a note for nobody", Checks.take(tree, 0, 2), 2);
        due("6: brought to nobody", tree.count(1), 0);
        due("6: DROP", Checks.take(tree, 2, 0), 1);
        due("6: only broker 1 is told of it", tree.waiting(0, 1) + " " + tree.waiting(0, 3), "3 0");
        due("6: in order", Checks.take(tree, 0, 1) + Checks.take(tree, 0, 1) + Checks.take(tree, 0, 1), "021");
    }

    /** 7: "-1 when there is no such line." */
    private static void waitingNone() {
        BrokerTree tree = new BrokerTree(CHAIN);
        for (int[] pair : NO_PAIRS) {
            due("7: no line " + pair[0] + " " + pair[1], tree.waiting(pair[0], pair[1]), -1);
        }
        for (int k = 1; k < 6; k++) {
            due("7: an empty line", tree.waiting(k, k - 1) + " " + tree.waiting(k - 1, k), "0 0");
        }
    }

    /** 7: "How many messages are in the line": none, few, and more than any row has. */
    private static void waitingLong() {
        BrokerTree tree = subscribed("a=1");
        for (int k = 0; k < 130; k++) {
            due("7: in the line", tree.waiting(0, 1), k);
            Checks.publish(tree, 0, 1, 0, "");
        }
        for (int k = 0; k < 60; k++) {
            Checks.take(tree, 0, 1);
        }
        due("7: some were taken", tree.waiting(0, 1), 70);
        for (int k = 0; k < 90; k++) {
            Checks.publish(tree, 6, 1, 0, "");
        }
        due("7: and some came", tree.waiting(0, 1), 160);
        due("7: all", tree.run() + " " + tree.waiting(0, 1), "160 0");
    }

    /** 8: "until there are none". */
    private static void runNothing() {
        BrokerTree tree = new BrokerTree(CHAIN);
        due("8: none", tree.run(), 0);
        Checks.subscribe(tree, 0, "a=1");
        Checks.take(tree, 0, 1);
        due("8: four are left", tree.run(), 4);
        due("8: none again", tree.run(), 0);
    }

    /** 8: "or 200 were taken (there may be more then): how many." */
    private static void runNearly200() {
        for (int many : new int[] {1, 199, 200, 201, 399, 400, 401}) {
            BrokerTree tree = subscribed("a=1");
            for (int k = 0; k < many; k++) {
                Checks.publish(tree, 0, 1, 0, "");
            }
            int left = many;
            for (int turn = 0; turn < 4; turn++) {
                int taken = Math.min(left, 200);
                left -= taken;
                due("8: of " + many + " in turn " + turn, tree.run(), taken);
                due("8: left of " + many, tree.waiting(0, 1), left);
            }
            due("8: brought", tree.count(1), many);
        }
    }

    /** The same sentence: messages that come of others count too. */
    private static void runWhatArises() {
        BrokerTree tree = new BrokerTree(CHAIN);
        Checks.subscribe(tree, 0, "a=1");
        due("8: five brokers are told", tree.run(), 5);
        for (int k = 0; k < 100; k++) {
            Checks.publish(tree, 5, 1, 0, "");
        }
        due("8: 200 of 500", tree.run(), 200);
        due("8: one note after the other", tree.count(1) + " " + tree.waiting(5, 4), "40 60");
        due("8: 200 of 300", tree.run(), 200);
        due("8: the last 100", tree.run(), 100);
        due("8: no more", tree.run() + " " + tree.count(1), "0 100");
    }

    /** 8: "from the line with the least from, and then the least to, that has one". */
    private static void runLeastFrom() {
        BrokerTree away = new BrokerTree(CHAIN);
        Checks.subscribe(away, 5, "a=1");
        away.run();
        for (int k = 0; k < 90; k++) {
            Checks.publish(away, 0, 1, 0, "");
        }
        due("8: the least from", away.run(), 200);
        due("8: the first lines are empty", away.waiting(0, 1) + " " + away.waiting(1, 2), "0 0");
        due("8: of the next one 20 were taken", away.waiting(2, 3) + " " + away.waiting(3, 4), "70 20");
        BrokerTree star = new BrokerTree(STAR);
        for (int client = 1; client < 6; client++) {
            Checks.subscribe(star, client, "a=1");
        }
        star.run();
        for (int k = 0; k < 70; k++) {
            Checks.publish(star, 0, 1, 0, "");
        }
        due("8: the least to", star.run(), 200);
        due("8: the first lines are empty", star.waiting(0, 1) + " " + star.waiting(0, 2), "0 0");
        due("8: of the next one 60 were taken", star.waiting(0, 3) + " " + star.waiting(0, 4), "10 70");
    }

    /** 9: "IllegalArgumentException when there is no such client". */
    private static void readNoClient() {
        BrokerTree tree = subscribed("a=1");
        Checks.publish(tree, 1, 1, 1, "");
        for (int client : NO_CLIENTS) {
            due("9: client " + client, Checks.read(tree, client), NO_ARGUMENT);
        }
        due("9: nothing came of it", Checks.read(tree, 1), 0);
    }

    /** 9: "NoSuchElementException when there is none." */
    private static void readNone() {
        BrokerTree tree = subscribed("a=1");
        for (int client = 0; client < 8; client++) {
            due("9: none for " + client, Checks.read(tree, client), NO_ELEMENT);
        }
        Checks.publish(tree, 0, 1, 0, "");
        due("9: not yet brought", Checks.read(tree, 1), NO_ELEMENT);
        Checks.take(tree, 0, 1);
        due("9: brought", Checks.read(tree, 1), 0);
        due("9: read", Checks.read(tree, 1), NO_ELEMENT);
        due("9: still none", Checks.read(tree, 1), NO_ELEMENT);
        Checks.publish(tree, 7, 1, 0, "");
        due("9: another one", Checks.read(tree, 1), 1);
        due("9: not the one who published", Checks.read(tree, 7), NO_ELEMENT);
    }

    /** 9: "The number of the note that was brought to a client first (of those not read yet), which is read then." */
    private static void readRound() {
        BrokerTree tree = subscribed("a=1");
        int made = 0;
        int read = 0;
        for (int turn = 0; turn < 50; turn++) {
            for (int k = 0; k < 4; k++) {
                Checks.publish(tree, 1, 1, 0, "");
                made++;
            }
            for (int k = 0; k < 3; k++) {
                due("9: in turn " + turn, Checks.read(tree, 1), read);
                read++;
            }
        }
        while (read < made) {
            due("9: the rest", Checks.read(tree, 1), read);
            read++;
        }
        due("9: no more", Checks.read(tree, 1), NO_ELEMENT);
    }

    /** 10: "-1 when they are none." */
    private static void filtersNone() {
        BrokerTree tree = new BrokerTree(CHAIN);
        Checks.subscribe(tree, 0, "a=1");
        Checks.subscribe(tree, 5, "a=1");
        tree.run();
        for (int[] pair : NO_PAIRS) {
            due("10: told " + pair[0] + " " + pair[1], tree.filters(pair[0], pair[1], false), -1);
            due("10: heard " + pair[0] + " " + pair[1], tree.filters(pair[0], pair[1], true), -1);
        }
        for (int k = 1; k < 6; k++) {
            due("10: told both ways", tree.filters(k, k - 1, false) + " " + tree.filters(k - 1, k, false), "1 1");
            due("10: heard both ways", tree.filters(k, k - 1, true) + " " + tree.filters(k - 1, k, true), "1 1");
        }
    }

    /** 11: "The draft is two filters with a blank between": "IllegalArgumentException when it is not so." */
    private static void coversWrong() {
        BrokerTree tree = new BrokerTree(STAR);
        for (String text : new String[] {"", " ", "  ", "a=1", "a=1 ", " a=1", " a=1 a=1", "a=1 a=1 ", "a=1  a=1", "a=1 a=1 a=1",
                "a=1&a=1", "a=1 &a=1", "a=1& a=1", "a=1a=1", "a=1 a", "a a=1", "a=1 x", "c=abcde c=a", "c=a c=abcde",
                "a=1&a=1&a=1&a=1 a=1", "a=1 a=1&a=1&a=1&a=1", " ".repeat(30)}) {
            due("11: no two filters " + text, Checks.covers(tree, text), NO_ARGUMENT);
        }
        due("11: no client subscribed", Checks.unsubscribe(tree, 0), NO_ELEMENT);
        due("11: nothing was told", tree.count(2), 0);
        for (char c = 32; c < 127; c++) {
            due("11: between " + c, Checks.covers(new BrokerTree(STAR), "a=1" + c + "a=1"), c == ' ' ? "true" : NO_ARGUMENT);
        }
    }

    /** The same sentences, with drafts of 30 characters that end in the middle of a filter. */
    private static void coversFull() {
        String first = "a[-999&b]-999&c^abcd";
        for (String text : new String[] {"x".repeat(30), "a".repeat(30), first + "&a[-999&b=", first + " ".repeat(10),
                first + " a=1&b=12&", first + " a=1&b=1&a", first + " b=-123&c^", first + " a=1&b=1&-", first + "&a=1 b=1 c"}) {
            due("11: how long is " + text, text.length(), 30);
            BrokerTree tree = new BrokerTree(STAR);
            due("11: no two filters " + text, Checks.covers(tree, text), NO_ARGUMENT);
            Checks.dueEmptyDraft("11: " + text, tree);
        }
        due("11: two filters", Checks.covers(new BrokerTree(STAR), first + " a=1&b=123"), false);
        due("11: two filters", Checks.covers(new BrokerTree(STAR), "c^abc&a!-9 c^abcd&b]-999&a=-99"), true);
    }

    /** 11: "and is empty then (also when it throws)". */
    private static void coversEmpties() {
        BrokerTree tree = new BrokerTree(STAR);
        due("11: true", Checks.covers(tree, "a>1 a>2"), true);
        due("11: emptied", Checks.publish(tree, 0, 0, 0, "x"), 0);
        due("11: false", Checks.covers(tree, "a>2 a>1"), false);
        due("11: emptied", Checks.publish(tree, 0, 0, 0, "x"), 1);
        due("11: throws", Checks.covers(tree, "a>2 a>1 "), NO_ARGUMENT);
        due("11: emptied", Checks.publish(tree, 0, 0, 0, "x"), 2);
        due("11: throws for the empty draft", Checks.answer(tree::covers), NO_ARGUMENT);
        due("11: emptied", Checks.publish(tree, 0, 0, 0, "x"), 3);
    }

    /** 12: "-1 for others." */
    private static void countOthers() {
        BrokerTree tree = subscribed("a=1");
        for (int what : new int[] {-1, 4, -2, 5, 100, Integer.MIN_VALUE, Integer.MAX_VALUE}) {
            due("12: what is " + what, tree.count(what), -1);
        }
        for (int what = 0; what < 4; what++) {
            due("12: what is " + what, tree.count(what), what == 2 ? 5 : 0);
        }
    }

    /** 12: "put into lines so far", "brought to clients": when they are put, not when they are taken, read or counted. */
    private static void countEach() {
        BrokerTree tree = new BrokerTree(STAR);
        Checks.subscribe(tree, 1, "a=1");
        due("12: put", counts(tree), "0 0 1 0");
        Checks.take(tree, 1, 0);
        due("12: taken, and four put", counts(tree), "0 0 5 0");
        tree.run();
        due("12: only taken", counts(tree), "0 0 5 0");
        Checks.publish(tree, 2, 1, 1, "");
        due("12: a note put", counts(tree), "1 0 5 0");
        Checks.take(tree, 2, 0);
        due("12: and once more", counts(tree), "2 0 5 0");
        Checks.take(tree, 0, 1);
        due("12: brought", counts(tree), "2 1 5 0");
        Checks.read(tree, 1);
        due("12: read", counts(tree), "2 1 5 0");
        Checks.publish(tree, 2, 2, 1, "");
        due("12: a note for nobody", counts(tree), "2 1 5 0");
        Checks.unsubscribe(tree, 0);
        due("12: a DROP put", counts(tree), "2 1 5 1");
        tree.run();
        due("12: all DROPs", counts(tree), "2 1 5 5");
    }

    private static String counts(BrokerTree tree) {
        return tree.count(0) + " " + tree.count(1) + " " + tree.count(2) + " " + tree.count(3);
    }

    /** All brokers beside broker 0, client 1 subscribed, and all brokers told of it. */
    private static BrokerTree subscribed(String filter) {
        BrokerTree tree = new BrokerTree(STAR);
        Checks.subscribe(tree, 1, filter);
        tree.run();
        return tree;
    }
}

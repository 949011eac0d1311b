/** For each promise: ordinary inputs, the edges that the document names, and wrong inputs. */
public final class PromisesTest {
    private static final String NO_ARGUMENT = Checks.NO_ARGUMENT;
    private static final String NO_STATE = Checks.NO_STATE;
    private static final String NO_ELEMENT = Checks.NO_ELEMENT;
    private static final int NOTHING = Checks.NOTHING;
    private static final int CHAIN = Checks.CHAIN;
    private static final int STAR = Checks.STAR;

    private static final String[] NO_FILTERS = {
        "", " ", "a", "a=", "=5", "a5", "a=1&", "&a=1", "a=1&&b=2", "a=1 ", " a=1", "a =1", "a= 1", "a=1234",
        "a=-", "a=--1", "a=1-", "a=+1", "a=x", "a^1", "a?1", "a==1", "d=1", "A=1", "b^1", "b=", "b<1x", "c=",
        "c=abcde", "c=A", "c=a1", "c=1", "c<a", "c>a", "c[a", "c]a", "c^", "c^abcde", "c!", "c!abcde", "c^a b",
        "a=1&b=2&c=a&a=1", "a=1,b=2", "a=1&b", "a=1 b=1", "c=`", "c={", "a=/", "a=:", "a=-1234", "a=1&-b=2"
    };

    private static final String[] FILTERS = {
        "a=0", "a=-0", "a=000", "a!-999", "a<999", "a>-1", "a[12", "a]-12", "b=1", "b!1", "b<1", "b>1", "b[1", "b]1",
        "c=a", "c!abcd", "c^ab", "c^abcd", "a>1&a<3", "a>1&b>1&c^z", "c=abcd&c=abcd&c=abcd", "a>-999&a<-999&b!-999"
    };

    public static void main(String[] args) {
        newObject();
        shapes();
        write();
        draftIsKeptAndEmptied();
        subscribe();
        noFilters();
        unsubscribe();
        publish();
        publishWrong();
        matching();
        take();
        needAndOrder();
        alikeFilters();
        heardAlikeFilters();
        noteGoesNotBack();
        waiting();
        run();
        runStopsAt200();
        read();
        filters();
        covers();
        coversWrong();
        count();
        manyNotes();
        Checks.end("PromisesTest");
    }

    private static void due(String what, Object got, Object want) {
        Checks.due(what, got, want);
    }

    private static void newObject() {
        BrokerTree tree = new BrokerTree(CHAIN);
        due("1: run", tree.run(), 0);
        for (int what = 0; what < 4; what++) {
            due("1: count " + what, tree.count(what), 0);
        }
        for (int client = 0; client < 8; client++) {
            due("1: read " + client, Checks.read(tree, client), NO_ELEMENT);
        }
        due("1: unsubscribe", Checks.unsubscribe(tree, 0), NO_ELEMENT);
        due("1: filters told", tree.filters(0, 1, false), 0);
        due("1: filters heard", tree.filters(0, 1, true), 0);
        due("1: empty draft", Checks.publish(tree, 0, 1, 1, ""), 0);
    }

    private static void shapes() {
        dueNeighbours(STAR, "10 20 30 40 50");
        dueNeighbours(CHAIN, "10 21 32 43 54");
        dueNeighbours(-1, "10 21 31 43 52");
        dueNeighbours(1 << 15, "10 20 30 40 50");
        dueNeighbours(7 | 5 << 3 | 4 << 6 | 6 << 9 | 6 << 12, "10 21 31 42 51");
        dueNeighbours(Integer.MIN_VALUE, "10 20 30 40 50");
        dueNeighbours(2073, "10 21 30 40 50");
    }

    private static void dueNeighbours(int shape, String want) {
        BrokerTree tree = new BrokerTree(shape);
        StringBuilder got = new StringBuilder();
        for (int k = 0; k < 6; k++) {
            due("1: waiting at itself", tree.waiting(k, k), -1);
            for (int m = 0; m < k; m++) {
                if (tree.waiting(k, m) == 0) {
                    got.append(got.length() == 0 ? "" : " ").append(k).append(m);
                }
                due("1: both ways", tree.waiting(m, k), tree.waiting(k, m));
            }
        }
        due("1: neighbours of " + shape, got, want);
    }

    private static void write() {
        BrokerTree tree = new BrokerTree(0);
        due("2: below", tree.write((char) 31), false);
        due("2: above", tree.write((char) 127), false);
        due("2: nought", tree.write((char) 0), false);
        due("2: far above", tree.write((char) ('a' + 256)), false);
        due("2: last char", tree.write((char) 65535), false);
        due("2: nothing was written", Checks.publish(tree, 0, 1, 1, ""), 0);
        due("2: blank", tree.write((char) 32), true);
        due("2: tilde", tree.write((char) 126), true);
        for (int k = 2; k < 30; k++) {
            due("2: room " + k, tree.write('x'), true);
        }
        due("2: full", tree.write('x'), false);
        due("2: full, none such", tree.write((char) 31), false);
        due("2: no filter", Checks.answer(() -> tree.subscribe(0)), NO_ARGUMENT);
        due("2: room again", tree.write('x'), true);
        due("2: a word", Checks.answer(() -> tree.publish(0, 1, 1)), 1);
    }

    private static void draftIsKeptAndEmptied() {
        BrokerTree tree = new BrokerTree(0);
        Checks.text(tree, "a=1");
        tree.run();
        tree.waiting(0, 1);
        tree.filters(0, 1, true);
        tree.count(0);
        Checks.take(tree, 0, 1);
        Checks.read(tree, 0);
        Checks.read(tree, 9);
        Checks.unsubscribe(tree, 0);
        due("2: kept by others", Checks.answer(() -> tree.subscribe(0)), 0);
        due("3: emptied", Checks.answer(() -> tree.subscribe(0)), NO_ARGUMENT);
        due("3: emptied when it throws", Checks.subscribe(tree, 8, "a=1"), NO_ARGUMENT);
        due("3: emptied when it throws", Checks.answer(() -> tree.subscribe(0)), NO_ARGUMENT);
        due("5: emptied when it throws", Checks.publish(tree, 8, 0, 0, "x"), NO_ARGUMENT);
        due("5: emptied when it throws", Checks.subscribe(tree, 0, "a=1"), 1);
        due("5: emptied when it throws", Checks.publish(tree, 0, 1001, 0, "x"), NO_ARGUMENT);
        due("5: emptied when it throws", Checks.subscribe(tree, 0, "a=1"), 2);
        due("5: emptied when it throws", Checks.publish(tree, 0, 0, 0, "a=1"), NO_ARGUMENT);
        due("5: emptied when it throws", Checks.subscribe(tree, 0, "a=1"), 3);
        due("5: emptied", Checks.publish(tree, 0, 0, 0, "abc"), 0);
        due("5: emptied", Checks.subscribe(tree, 0, "a=1"), 4);
        due("11: emptied", Checks.covers(tree, "a=1 a=1"), true);
        due("11: emptied", Checks.subscribe(tree, 0, "a=1"), 5);
        due("11: emptied when it throws", Checks.covers(tree, "a=1"), NO_ARGUMENT);
        due("11: emptied when it throws", Checks.subscribe(tree, 0, "a=1"), 6);
    }

    private static void subscribe() {
        BrokerTree tree = new BrokerTree(CHAIN);
        due("3: no client below", Checks.subscribe(tree, -1, "a=1"), NO_ARGUMENT);
        due("3: no client above", Checks.subscribe(tree, 8, "a=1"), NO_ARGUMENT);
        due("3: nothing was told", tree.count(2), 0);
        for (int k = 0; k < 16; k++) {
            due("3: number", Checks.subscribe(tree, k % 8, "a=" + k), k);
            if (k < 8) {
                due("4: ended ones count too", Checks.unsubscribe(tree, k), "done");
            }
        }
        due("3: 16 were made", Checks.subscribe(tree, 0, "a=1"), NO_STATE);
        due("3: emptied when it throws", Checks.answer(() -> tree.subscribe(0)), NO_ARGUMENT);
        due("3: no client, 16 were made", Checks.subscribe(tree, 8, "a=1"), NO_ARGUMENT);
        due("3: no filter, 16 were made", Checks.subscribe(tree, 0, "a=1&"), NO_ARGUMENT);
        due("3: none of these is one", Checks.unsubscribe(tree, 16), NO_ELEMENT);
    }

    private static void noFilters() {
        for (String text : NO_FILTERS) {
            BrokerTree tree = new BrokerTree(STAR);
            due("3: no filter " + text, Checks.subscribe(tree, 0, text), NO_ARGUMENT);
            due("3: not made", Checks.subscribe(tree, 0, "a=1"), 0);
        }
        for (String text : FILTERS) {
            due("3: filter " + text, Checks.subscribe(new BrokerTree(STAR), 0, text), 0);
        }
    }

    private static void unsubscribe() {
        BrokerTree tree = new BrokerTree(STAR);
        Checks.subscribe(tree, 1, "a>0");
        Checks.subscribe(tree, 7, "a>5");
        tree.run();
        Checks.publish(tree, 0, 9, 9, "");
        tree.run();
        due("4: below", Checks.unsubscribe(tree, -1), NO_ELEMENT);
        due("4: above", Checks.unsubscribe(tree, 2), NO_ELEMENT);
        due("4: ends", Checks.unsubscribe(tree, 0), "done");
        due("4: has ended", Checks.unsubscribe(tree, 0), NO_ELEMENT);
        due("4: tells what was covered, then drops", tree.waiting(1, 0), 2);
        due("4: TELL", Checks.take(tree, 1, 0), 0);
        due("4: heard both", tree.filters(0, 1, true), 2);
        due("4: DROP", Checks.take(tree, 1, 0), 1);
        due("4: heard one", tree.filters(0, 1, true), 1);
        tree.run();
        due("4: note is not for it", Checks.publish(tree, 7, 9, 9, ""), 1);
        due("4: brought ones stay", Checks.read(tree, 1), 0);
        due("4: no other one", Checks.read(tree, 1), NO_ELEMENT);
        due("4: the other client's", Checks.read(tree, 7), 0);
        due("4: the other client's", Checks.read(tree, 7), 1);
    }

    private static void publish() {
        BrokerTree tree = new BrokerTree(CHAIN);
        Checks.subscribe(tree, 0, "a=1");
        Checks.subscribe(tree, 0, "a>0");
        Checks.subscribe(tree, 6, "c^x");
        Checks.subscribe(tree, 2, "b=-999");
        tree.run();
        due("5: number", Checks.publish(tree, 0, 1, NOTHING, ""), 0);
        due("5: once, to itself", tree.count(1), 1);
        due("5: itself", Checks.read(tree, 0), 0);
        due("5: number", Checks.publish(tree, 0, 999, -999, "x"), 1);
        due("5: to both clients there", tree.count(1), 3);
        due("5: into the line", tree.waiting(0, 1), 1);
        due("5: in order", Checks.read(tree, 0) + Checks.read(tree, 6), "11");
        due("5: two steps", tree.run(), 2);
        due("5: far away", Checks.read(tree, 2), 1);
        due("5: number", Checks.publish(tree, 5, NOTHING, NOTHING, ""), 2);
        due("5: nobody's", tree.run(), 0);
    }

    private static void publishWrong() {
        BrokerTree tree = new BrokerTree(STAR);
        due("5: no client", Checks.publish(tree, -1, 0, 0, ""), NO_ARGUMENT);
        due("5: no client", Checks.publish(tree, 8, 0, 0, ""), NO_ARGUMENT);
        due("5: a below", Checks.publish(tree, 0, -1000, 0, ""), NO_ARGUMENT);
        due("5: a above", Checks.publish(tree, 0, 1001, 0, ""), NO_ARGUMENT);
        due("5: b below", Checks.publish(tree, 0, 0, -1000, ""), NO_ARGUMENT);
        due("5: b above", Checks.publish(tree, 0, 0, 1001, ""), NO_ARGUMENT);
        due("5: least int", Checks.publish(tree, 0, Integer.MIN_VALUE, 0, ""), NO_ARGUMENT);
        due("5: most int", Checks.publish(tree, 0, 0, Integer.MAX_VALUE, ""), NO_ARGUMENT);
        for (String word : new String[] {"abcde", "A", "a1", " ", "a ", " a", "-", "a-b", "`", "{"}) {
            due("5: no word " + word, Checks.publish(tree, 0, 0, 0, word), NO_ARGUMENT);
        }
        due("5: they have no numbers", Checks.publish(tree, 0, -999, 999, "abcd"), 0);
    }

    private static void matching() {
        dueMatch("a=5", 5, NOTHING, "", true);
        dueMatch("a=5", 4, 5, "", false);
        dueMatch("a=-5", -5, 0, "", true);
        dueMatch("a=-5", 5, 0, "", false);
        dueMatch("a!5", 5, 0, "", false);
        dueMatch("a!5", 6, 0, "", true);
        dueMatch("a!5", NOTHING, 0, "", false);
        dueMatch("b<5", 0, 4, "", true);
        dueMatch("b<5", 4, 5, "", false);
        dueMatch("b>5", 6, 5, "", false);
        dueMatch("b>5", 0, 6, "", true);
        dueMatch("b>5", 0, NOTHING, "", false);
        dueMatch("b[5", 0, 5, "", true);
        dueMatch("b[5", 0, 4, "", false);
        dueMatch("b[5", 0, NOTHING, "", false);
        dueMatch("b]5", 0, 5, "", true);
        dueMatch("b]5", 0, 6, "", false);
        dueMatch("a]999", 999, 0, "", true);
        dueMatch("a]999", NOTHING, 0, "", false);
        dueMatch("a[-999", -999, 0, "", true);
        dueMatch("c=ab", 0, 0, "ab", true);
        dueMatch("c=ab", 0, 0, "a", false);
        dueMatch("c=ab", 0, 0, "abc", false);
        dueMatch("c=ab", 0, 0, "", false);
        dueMatch("c!ab", 0, 0, "ab", false);
        dueMatch("c!ab", 0, 0, "abc", true);
        dueMatch("c!ab", 0, 0, "z", true);
        dueMatch("c!ab", 0, 0, "", false);
        dueMatch("c^ab", 0, 0, "ab", true);
        dueMatch("c^ab", 0, 0, "abzz", true);
        dueMatch("c^ab", 0, 0, "a", false);
        dueMatch("c^ab", 0, 0, "aab", false);
        dueMatch("c^ab", 0, 0, "ac", false);
        dueMatch("c^ab", 0, 0, "", false);
        dueMatch("c^zzzz", 0, 0, "zzzz", true);
        dueMatch("a>1&b>1&c^x", 2, 2, "xy", true);
        dueMatch("a>1&b>1&c^x", 2, 1, "xy", false);
        dueMatch("a>1&b>1&c^x", 1, 2, "xy", false);
        dueMatch("a>1&b>1&c^x", 2, 2, "y", false);
        dueMatch("a>1&a<5&a!3", 3, 0, "", false);
        dueMatch("a>1&a<5&a!3", 4, 0, "", true);
        dueMatch("c!a&c!b&c!c", 0, 0, "c", false);
        dueMatch("c!a&c!b&c!c", 0, 0, "d", true);
        dueMatch("a=007", 7, 0, "", true);
        dueMatch("a=-0", 0, 0, "", true);
    }

    private static void dueMatch(String filter, int a, int b, String c, boolean want) {
        BrokerTree tree = new BrokerTree(STAR);
        Checks.subscribe(tree, 1, filter);
        tree.run();
        Checks.publish(tree, 1, a, b, c);
        String what = filter + " of " + a + ", " + b + ", " + c;
        due("5: brought, " + what, tree.count(1), want ? 1 : 0);
        Checks.publish(tree, 2, a, b, c);
        due("6: sent, " + what, tree.count(0), want ? 1 : 0);
    }

    private static void take() {
        BrokerTree tree = new BrokerTree(CHAIN);
        due("6: nothing in it", Checks.take(tree, 0, 1), NO_ELEMENT);
        for (int[] line : new int[][] {{0, 0}, {0, 2}, {-1, 0}, {0, -1}, {6, 5}, {5, 6}, {-1, 1}, {7, 1}}) {
            due("6: no line " + line[0] + " " + line[1], Checks.take(tree, line[0], line[1]), NO_ELEMENT);
        }
        Checks.subscribe(tree, 0, "a=1");
        due("6: TELL", Checks.take(tree, 0, 1), 0);
        due("6: told on", tree.waiting(1, 2), 1);
        due("6: not back", tree.waiting(1, 0), 0);
        due("6: another line", Checks.take(tree, 2, 3), NO_ELEMENT);
        Checks.publish(tree, 1, 1, 1, "");
        Checks.unsubscribe(tree, 0);
        due("6: note", Checks.take(tree, 1, 0), 2);
        due("6: nothing comes of it", tree.count(1), 0);
        due("6: DROP", Checks.take(tree, 0, 1), 1);
        due("6: dropped on", tree.waiting(1, 2), 2);
        due("6: TELL first", Checks.take(tree, 1, 2), 0);
        due("6: DROP then", Checks.take(tree, 1, 2), 1);
        due("6: no more", Checks.take(tree, 1, 2), NO_ELEMENT);
    }

    private static void needAndOrder() {
        BrokerTree tree = new BrokerTree(STAR);
        Checks.subscribe(tree, 1, "a=1");
        Checks.subscribe(tree, 7, "a=2");
        Checks.subscribe(tree, 1, "b=3");
        Checks.subscribe(tree, 1, "a<9");
        due("3: told", tree.filters(1, 0, false), 2);
        due("3: TELLs", tree.count(2), 4);
        due("3: DROPs", tree.count(3), 2);
        StringBuilder kinds = new StringBuilder();
        StringBuilder heard = new StringBuilder();
        for (int k = 0; k < 6; k++) {
            kinds.append(Checks.take(tree, 1, 0));
            heard.append(tree.filters(0, 1, true));
        }
        due("3: TELLs before DROPs", kinds, "000011");
        due("3: heard by and by", heard, "123432");
        Checks.publish(tree, 0, 2, 0, "");
        due("6: what covers it brings it", Checks.take(tree, 0, 1), 2);
        due("6: to the one client", Checks.read(tree, 7), 0);
        due("6: a<9 too", Checks.read(tree, 1), 0);
        due("3: told to the others", tree.waiting(0, 5), 6);
    }

    private static void alikeFilters() {
        BrokerTree tree = new BrokerTree(CHAIN);
        Checks.subscribe(tree, 0, "a>1&a<3");
        Checks.subscribe(tree, 6, "a=2");
        due("3: one of two that are alike", tree.count(2), 1);
        Checks.unsubscribe(tree, 0);
        due("4: the other one is enough", tree.count(2) + tree.count(3), 1);
        Checks.subscribe(tree, 0, "a=002");
        Checks.unsubscribe(tree, 1);
        due("4: a third one too", tree.count(2) + tree.count(3), 1);
        Checks.unsubscribe(tree, 2);
        due("4: none is left", tree.count(3), 1);
        Checks.subscribe(tree, 0, "a=5&a=6");
        due("3: one that matches nothing is told", tree.count(2), 2);
        Checks.subscribe(tree, 0, "b<-999");
        due("3: but no other one", tree.count(2), 2);
        Checks.subscribe(tree, 0, "c=a");
        due("3: and any other one covers it", tree.filters(0, 1, false), 1);
        due("3: and any other one covers it", tree.count(3), 2);
    }

    private static void heardAlikeFilters() {
        BrokerTree tree = new BrokerTree(STAR);
        Checks.subscribe(tree, 1, "c^abcd");
        Checks.subscribe(tree, 2, "c=abcd");
        tree.run();
        due("6: from both", tree.filters(0, 1, true) + tree.filters(0, 2, true), 2);
        due("6: told once", tree.filters(0, 3, false), 1);
        due("6: to each of both", tree.filters(0, 1, false) + tree.filters(0, 2, false), 2);
        Checks.unsubscribe(tree, 0);
        due("6: one DROP here, and one at broker 0", tree.run(), 2);
        due("6: still told", tree.filters(0, 3, false), 1);
        due("6: not to the one it is from", tree.filters(0, 2, false), 0);
        Checks.publish(tree, 4, 0, 0, "abcd");
        tree.run();
        due("6: brought", Checks.read(tree, 2), 0);
        due("6: not brought", Checks.read(tree, 1), NO_ELEMENT);
    }

    private static void noteGoesNotBack() {
        BrokerTree tree = new BrokerTree(CHAIN);
        Checks.subscribe(tree, 0, "a=1");
        Checks.subscribe(tree, 2, "a=1");
        tree.run();
        due("6: heard on both sides", tree.filters(1, 0, true) + tree.filters(1, 2, true), 2);
        Checks.publish(tree, 0, 1, 0, "");
        due("6: on, not back", tree.run(), 2);
        due("6: each once", tree.count(1), 2);
        Checks.publish(tree, 1, 1, 0, "");
        due("6: to both sides", tree.run(), 2);
        due("12: notes in lines", tree.count(0), 4);
    }

    private static void waiting() {
        BrokerTree tree = new BrokerTree(STAR);
        due("7: nothing", tree.waiting(0, 5), 0);
        for (int[] line : new int[][] {{0, 0}, {1, 2}, {5, 4}, {-1, 0}, {0, -1}, {0, 6}, {6, 0}, {1, -6}, {-1, 6},
                {Integer.MIN_VALUE, 0}, {0, Integer.MAX_VALUE}}) {
            due("7: no line " + line[0] + " " + line[1], tree.waiting(line[0], line[1]), -1);
        }
        Checks.subscribe(tree, 0, "a=1");
        Checks.subscribe(tree, 0, "b=1");
        due("7: two", tree.waiting(0, 5), 2);
        due("7: only that way", tree.waiting(5, 0), 0);
        Checks.take(tree, 0, 5);
        due("7: one", tree.waiting(0, 5), 1);
        due("7: another one's", tree.waiting(0, 4), 2);
    }

    private static void run() {
        BrokerTree tree = new BrokerTree(CHAIN);
        due("8: nothing", tree.run(), 0);
        Checks.subscribe(tree, 0, "a=1");
        Checks.subscribe(tree, 5, "a=1");
        due("8: all", tree.run(), 10);
        due("8: none left", tree.run(), 0);
        due("8: heard at both ends", tree.filters(0, 1, true) + tree.filters(5, 4, true), 2);

        BrokerTree other = new BrokerTree(STAR);
        Checks.subscribe(other, 2, "a>0");
        other.run();
        Checks.publish(other, 4, 5, 0, "");
        Checks.publish(other, 3, 5, 0, "");
        Checks.publish(other, 5, 5, 0, "");
        due("8: six steps", other.run(), 6);
        due("8: the least from first", Checks.read(other, 2) + Checks.read(other, 2) + Checks.read(other, 2), "102");
    }

    private static void runStopsAt200() {
        BrokerTree tree = new BrokerTree(STAR);
        Checks.subscribe(tree, 1, "a=1");
        tree.run();
        for (int k = 0; k < 201; k++) {
            Checks.publish(tree, 0, 1, 0, "");
        }
        due("8: 200", tree.run(), 200);
        due("8: one is left", tree.waiting(0, 1), 1);
        due("8: the last one", tree.run(), 1);
        due("8: no more", tree.run(), 0);
    }

    private static void read() {
        BrokerTree tree = new BrokerTree(STAR);
        due("9: no client", Checks.read(tree, -1), NO_ARGUMENT);
        due("9: no client", Checks.read(tree, 8), NO_ARGUMENT);
        due("9: none", Checks.read(tree, 7), NO_ELEMENT);
        Checks.subscribe(tree, 7, "a>0");
        for (int k = 0; k < 20; k++) {
            Checks.publish(tree, 1, k % 2, 0, "");
        }
        for (int k = 1; k < 20; k += 2) {
            due("9: in order", Checks.read(tree, 7), k);
        }
        due("9: all were read", Checks.read(tree, 7), NO_ELEMENT);
        due("9: another client there", Checks.read(tree, 1), NO_ELEMENT);
    }

    private static void filters() {
        BrokerTree tree = new BrokerTree(CHAIN);
        Checks.subscribe(tree, 0, "a=1");
        Checks.subscribe(tree, 0, "a=2");
        due("10: told", tree.filters(0, 1, false), 2);
        due("10: not yet heard", tree.filters(1, 0, true), 0);
        Checks.take(tree, 0, 1);
        due("10: one heard", tree.filters(1, 0, true), 1);
        due("10: told on", tree.filters(1, 2, false), 1);
        due("10: not told back", tree.filters(1, 0, false), 0);
        due("10: nothing heard", tree.filters(0, 1, true), 0);
        for (int[] pair : new int[][] {{0, 0}, {0, 2}, {2, 0}, {-1, 0}, {0, -1}, {5, 6}, {6, 5}, {0, 7}, {1, -5}}) {
            due("10: no neighbours", tree.filters(pair[0], pair[1], false), -1);
            due("10: no neighbours", tree.filters(pair[0], pair[1], true), -1);
        }
    }

    private static void covers() {
        BrokerTree tree = new BrokerTree(0);
        due("11: wider", Checks.covers(tree, "a>1 a>2"), true);
        due("11: narrower", Checks.covers(tree, "a>2 a>1"), false);
        due("11: fewer conditions", Checks.covers(tree, "a>1 a>1&b=1"), true);
        due("11: more conditions", Checks.covers(tree, "a>1&b=1 a>1"), false);
        due("11: others", Checks.covers(tree, "a>1 b>1"), false);
        due("11: no number between", Checks.covers(tree, "a=2 a>1&a<3"), true);
        due("11: excluded at the end", Checks.covers(tree, "a>2 a>1&a!2"), true);
        due("11: excluded inside", Checks.covers(tree, "a!5 a>4"), false);
        due("11: excluded outside", Checks.covers(tree, "a!5 a>5"), true);
        due("11: least number", Checks.covers(tree, "a=-999 a<-998"), true);
        due("11: most number", Checks.covers(tree, "a=999 a>998"), true);
        due("11: having one at all", Checks.covers(tree, "a[-999 a!7"), true);
        due("11: having one at all", Checks.covers(tree, "a[-999 b=1"), false);
        due("11: nothing is covered", Checks.covers(tree, "c=x a>999"), true);
        due("11: nothing covers", Checks.covers(tree, "a>999 c=x"), false);
        due("11: nothing and nothing", Checks.covers(tree, "a>999 c=x&c=y"), true);
        due("11: four letters", Checks.covers(tree, "c=abcd c^abcd"), true);
        due("11: three letters", Checks.covers(tree, "c=abc c^abc"), false);
        due("11: beginning of", Checks.covers(tree, "c^ab c^abc"), true);
        due("11: not beginning of", Checks.covers(tree, "c^abc c^ab"), false);
        due("11: no such word", Checks.covers(tree, "a=1 c^abcd&c!abcd"), true);
        due("11: still such words", Checks.covers(tree, "a=1 c^abc&c!abc"), false);
        due("11: excluded beginning", Checks.covers(tree, "c^ab&c!ab c^abc"), true);
        due("11: excluded beginning", Checks.covers(tree, "c^ab&c!ab c^ab"), false);
        due("11: excluded both", Checks.covers(tree, "c!ab c^ab&c!ab"), true);
        due("11: word of 30", Checks.covers(tree, "c^abcd&c^abc&c^ab c!abce&c!abc"), false);
    }

    private static void coversWrong() {
        BrokerTree tree = new BrokerTree(0);
        for (String text : new String[] {"", " ", "a=1", "a=1 ", " a=1", "a=1  a=1", "a=1 a=1 a=1", " a=1 a=1", "a=1 a=1 ",
                "a=1&a=1", "a=1 b", "b a=1", "a=1,a=1", "c=abcde c=a", "a=1&a=1&a=1&a=1 a=1", "a=1 a=1&a=1&a=1&a=1"}) {
            due("11: no two filters: " + text, Checks.covers(tree, text), NO_ARGUMENT);
        }
        due("11: no subscription came of it", Checks.unsubscribe(tree, 0), NO_ELEMENT);
    }

    private static void count() {
        BrokerTree tree = new BrokerTree(STAR);
        for (int what : new int[] {-1, 4, 5, Integer.MIN_VALUE, Integer.MAX_VALUE}) {
            due("12: others", tree.count(what), -1);
        }
        Checks.subscribe(tree, 1, "a=1");
        due("12: put, not taken", tree.count(2), 1);
        tree.run();
        due("12: TELLs", tree.count(2), 5);
        Checks.publish(tree, 2, 1, 1, "");
        due("12: notes put", tree.count(0), 1);
        due("12: not brought yet", tree.count(1), 0);
        tree.run();
        due("12: notes", tree.count(0), 2);
        due("12: brought", tree.count(1), 1);
        Checks.read(tree, 1);
        due("12: read ones were brought", tree.count(1), 1);
        Checks.unsubscribe(tree, 0);
        due("12: DROPs", tree.count(3), 1);
        tree.run();
        due("12: all DROPs", tree.count(3), 5);
        due("12: TELLs as before", tree.count(2), 5);
    }

    /** As many notes as an object's 512 calls can bring, and some calls more, which may answer what they like. */
    private static void manyNotes() {
        BrokerTree tree = new BrokerTree(STAR);
        Checks.subscribe(tree, 1, "a=1");
        tree.run();
        for (int k = 0; k < 500; k++) {
            due("5: number", Checks.publish(tree, 0, 1, 0, ""), k);
        }
        due("7: all are there", tree.waiting(0, 1), 500);
        due("8: the first ones", tree.run(), 200);
        due("9: the first one", Checks.read(tree, 1), 0);
        for (int k = 0; k < 100; k++) {
            tree.publish(0, 1, 0);
        }
        tree.run();
    }
}

/** One test for each sentence of the document's Terms that names a boundary; the sentence stands above it. */
public final class TermEdgesTest {
    private static final String NO_ARGUMENT = Checks.NO_ARGUMENT;
    private static final String NO_STATE = Checks.NO_STATE;
    private static final String NO_ELEMENT = Checks.NO_ELEMENT;
    private static final int NOTHING = Checks.NOTHING;
    private static final int CHAIN = Checks.CHAIN;
    private static final int STAR = Checks.STAR;
    private static final String NUMBER_SIGNS = "=!<>[]";
    private static final String WORD_SIGNS = "=!^";

    public static void main(String[] args) {
        lastCall();
        brokers();
        threeBitsModulo();
        otherBits();
        clients();
        numbersOfNotes();
        wordsOfNotes();
        howManyConditions();
        betweenConditions();
        attributesAndSigns();
        digits();
        letters();
        longestTexts();
        numberConditions();
        conditionsOnNothing();
        wordConditions();
        allConditions();
        coversAtTheEnds();
        coversWhatIsNotPublished();
        filtersThatMatchNothing();
        alike();
        sixteenEver();
        fullRows();
        needWithoutSubscriptions();
        needLeavesOut();
        needOfAlikeOnes();
        settlingTellsFirst();
        handledOnce();
        takenByALeaf();
        takenNotBack();
        Checks.end("TermEdgesTest");
    }

    private static void due(String what, Object got, Object want) {
        Checks.due(what, got, want);
    }

    /** "An object is used for at most 512 calls after it has been made". */
    private static void lastCall() {
        BrokerTree publisher = new BrokerTree(STAR);
        for (int call = 1; call <= 512; call++) {
            due("call " + call, Checks.publish(publisher, call % 8, -999, NOTHING, ""), call - 1);
        }
        BrokerTree reader = new BrokerTree(STAR);
        Checks.subscribe(reader, 6, "a=1");
        for (int k = 0; k < 254; k++) {
            Checks.publish(reader, 0, 1, 1, "");
        }
        for (int k = 0; k < 254; k++) {
            due("read as call " + (259 + k), Checks.read(reader, 6), k);
        }
        BrokerTree writer = new BrokerTree(STAR);
        for (int call = 1; call <= 512; call++) {
            due("write as call " + call, writer.write('a'), call <= 30);
        }
    }

    /** "BROKERS 0 .. 5." */
    private static void brokers() {
        for (int shape : new int[] {STAR, CHAIN, -1}) {
            BrokerTree tree = new BrokerTree(shape);
            for (int other = -2; other < 8; other++) {
                for (int none : new int[] {-1, 6, Integer.MIN_VALUE, Integer.MAX_VALUE}) {
                    due("line from " + none, tree.waiting(none, other), -1);
                    due("line to " + none, tree.waiting(other, none), -1);
                }
            }
            int ends = 0;
            for (int other = 0; other < 6; other++) {
                ends += tree.waiting(5, other) == 0 ? 1 : 0;
            }
            due("broker 5 has a neighbour below", ends, 1);
        }
    }

    /** "broker k and broker m are NEIGHBOURS, m being what the three bits .. make, modulo k." */
    private static void threeBitsModulo() {
        for (int k = 1; k < 6; k++) {
            for (int bits = 0; bits < 8; bits++) {
                int[] beside = new int[6];
                beside[k] = bits % k;
                dueTree(bits << 3 * (k - 1), beside);
            }
        }
    }

    /** The same sentence: bits that no broker has do not count, and each broker has its own ones. */
    private static void otherBits() {
        for (int bit = 15; bit < 32; bit++) {
            dueTree(1 << bit, new int[6]);
        }
        dueTree(-1, new int[] {0, 0, 1, 1, 3, 2});
        dueTree(-1 << 15, new int[6]);
        dueTree(Integer.MAX_VALUE, new int[] {0, 0, 1, 1, 3, 2});
    }

    private static void dueTree(int shape, int[] beside) {
        BrokerTree tree = new BrokerTree(shape);
        for (int k = 0; k < 6; k++) {
            for (int m = 0; m < 6; m++) {
                boolean are = k > m && beside[k] == m || m > k && beside[m] == k;
                due("line " + k + " " + m + " of shape " + shape, tree.waiting(k, m), are ? 0 : -1);
            }
        }
    }

    /** "CLIENTS 0 .. 7; client c is at broker c modulo 6." */
    private static void clients() {
        for (int client = 0; client < 8; client++) {
            BrokerTree tree = new BrokerTree(CHAIN);
            due("client " + client, Checks.subscribe(tree, client, "a=1"), 0);
            for (int broker = 0; broker < 6; broker++) {
                int there = broker == client % 6 ? 1 : 0;
                String want = (broker > 0 ? there : -1) + " " + (broker < 5 ? there : -1);
                due("client " + client + " at broker " + broker,
                        tree.filters(broker, broker - 1, false) + " " + tree.filters(broker, broker + 1, false), want);
            }
            int beside = client < 2 ? client + 6 : client > 5 ? client - 6 : client;
            due("publishes", Checks.publish(tree, beside, 1, 1, ""), 0);
            due("brought at the same broker", tree.count(1), 1);
        }
        for (int none : new int[] {-1, 8, -6, 14, Integer.MIN_VALUE, Integer.MAX_VALUE}) {
            due("no client " + none, Checks.subscribe(new BrokerTree(CHAIN), none, "a=1"), NO_ARGUMENT);
        }
    }

    /** "A NOTE has for the ATTRIBUTES a and b each an int -999 .. 999, or nothing". */
    private static void numbersOfNotes() {
        for (int number : new int[] {-999, -998, -1, 0, 1, 998, 999}) {
            dueMatch("a=" + number, number, NOTHING, "", true);
            dueMatch("b=" + number, NOTHING, number, "", true);
            dueMatch("a=" + number, NOTHING, number, "", false);
            dueMatch("b=" + number, number, NOTHING, "", false);
        }
    }

    /** "and for c a WORD (one to four letters a .. z), or nothing." */
    private static void wordsOfNotes() {
        for (String word : new String[] {"a", "z", "az", "zzz", "aaaa", "zzzz"}) {
            dueMatch("c=" + word, 0, 0, word, true);
            dueMatch("c=" + word, 0, 0, "", false);
            due("five letters", Checks.publish(new BrokerTree(0), 0, 0, 0, word + "aaaaa"), NO_ARGUMENT);
        }
        for (char c = 32; c < 127; c++) {
            boolean letter = c >= 'a' && c <= 'z';
            for (String word : new String[] {"@", "@bcd", "a@cd", "ab@d", "abc@"}) {
                String text = word.replace('@', c);
                due("word " + text, Checks.publish(new BrokerTree(0), 0, 0, 0, text), letter ? "0" : NO_ARGUMENT);
            }
        }
    }

    /** "one to three CONDITIONS". */
    private static void howManyConditions() {
        dueFilter("", false);
        dueFilter("a=1", true);
        dueFilter("a=1&a=1", true);
        dueFilter("a=1&a=1&a=1", true);
        dueFilter("a=1&a=1&a=1&a=1", false);
        dueFilter("a=1&b=1&c=a&c=a", false);
        dueFilter("a=1&a=1&a=1&", false);
        dueFilter("&a=1&a=1&a=1", false);
    }

    /** "with & between". */
    private static void betweenConditions() {
        for (char c = 32; c < 127; c++) {
            dueFilter("a=1" + c + "b=1", c == '&');
            dueFilter("c=a" + c + "b=1", c == '&');
            dueFilter("a=1&c=a" + c + "c=b", c == '&');
        }
        for (String text : new String[] {"&", "&&", "&a=1", "a=1&", "a=1&&b=1", "a=1&b=1&", "a=1b=1", "a=1 &b=1", "a=1& b=1"}) {
            dueFilter(text, false);
        }
    }

    /** "A condition is a or b, one of = ! < > [ ], and a number ..; or c, one of = ! ^, and .. letters." */
    private static void attributesAndSigns() {
        for (char attribute = 32; attribute < 127; attribute++) {
            for (char sign = 32; sign < 127; sign++) {
                boolean number = attribute == 'a' || attribute == 'b';
                dueFilter("" + attribute + sign + "1", number && NUMBER_SIGNS.indexOf(sign) >= 0);
                dueFilter("" + attribute + sign + "x", attribute == 'c' && WORD_SIGNS.indexOf(sign) >= 0);
            }
        }
    }

    /** "a number (perhaps -, one to three digits)". */
    private static void digits() {
        for (String text : new String[] {"0", "9", "00", "99", "000", "007", "999", "-0", "-9", "-00", "-99", "-000", "-999"}) {
            dueFilter("a=" + text, true);
            dueFilter("b]" + text + "&a=1", true);
        }
        for (String text : new String[] {"", "-", "--", "--1", "1-", "-1-", "+1", "0000", "0999", "1000", "-0000", "-1000", "1 ",
                " 1"}) {
            dueFilter("a=" + text, false);
            dueFilter("b]" + text + "&a=1", false);
        }
        for (char c = 32; c < 127; c++) {
            boolean digit = c >= '0' && c <= '9';
            dueFilter("a=" + c, digit);
            dueFilter("a=" + c + "1", digit || c == '-');
            dueFilter("a=1" + c, digit);
            dueFilter("a=1" + c + "1", digit);
            dueFilter("a=11" + c, digit);
            dueFilter("b<-" + c + "11", digit);
            dueFilter("b<-11" + c, digit);
        }
    }

    /** "and one to four letters." */
    private static void letters() {
        for (char sign : WORD_SIGNS.toCharArray()) {
            dueFilter("c" + sign, false);
            dueFilter("c" + sign + "&a=1", false);
            dueFilter("c" + sign + "a", true);
            dueFilter("c" + sign + "zzzz", true);
            dueFilter("c" + sign + "zzzzz", false);
            dueFilter("a=1&c" + sign + "zzzzz", false);
            for (char c = 32; c < 127; c++) {
                boolean letter = c >= 'a' && c <= 'z';
                dueFilter("c" + sign + c, letter);
                dueFilter("c" + sign + c + "bcd", letter);
                dueFilter("c" + sign + "ab" + c + "d", letter);
                dueFilter("c" + sign + "abc" + c, letter);
            }
        }
    }

    /** "FILTERS are texts of at most 30 characters": the longest filter, and the longest text that is none. */
    private static void longestTexts() {
        dueFilter("a[-999&b]-999&c^abcd", true);
        dueFilter("a[-999&b]-999&c^abcd&a[-999&b=", false);
        dueFilter("a=1" + " ".repeat(27), false);
        dueFilter("c=" + "a".repeat(28), false);
        dueFilter("a=" + "0".repeat(28), false);
        dueFilter("&".repeat(30), false);
    }

    /** "It holds .. when that is: = the same; ! another one; < less; > greater; [ at least; ] at most". */
    private static void numberConditions() {
        for (int number : new int[] {-999, -998, -100, -1, 0, 1, 10, 998, 999}) {
            for (int value = Math.max(-999, number - 1); value <= Math.min(999, number + 1); value++) {
                for (char sign : NUMBER_SIGNS.toCharArray()) {
                    boolean holds = holds(sign, value, number);
                    dueMatch("a" + sign + number, value, NOTHING, "", holds);
                    dueMatch("b" + sign + number, NOTHING, value, "", holds);
                }
            }
        }
    }

    private static boolean holds(char sign, int value, int number) {
        return sign == '=' && value == number || sign == '!' && value != number || sign == '<' && value < number
                || sign == '>' && value > number || sign == '[' && value >= number || sign == ']' && value <= number;
    }

    /** "It holds for a note that has the attribute". */
    private static void conditionsOnNothing() {
        for (char sign : NUMBER_SIGNS.toCharArray()) {
            for (int number : new int[] {-999, -1, 0, 1, 999}) {
                dueMatch("a" + sign + number, NOTHING, number, "a", false);
                dueMatch("b" + sign + number, number, NOTHING, "a", false);
            }
        }
        for (char sign : WORD_SIGNS.toCharArray()) {
            dueMatch("c" + sign + "a", 0, 0, "", false);
            dueMatch("c" + sign + "zzzz", 0, 0, "", false);
        }
    }

    /** "= the same; ! another one; .. ^ when the letters are the beginning of it (or it)." */
    private static void wordConditions() {
        String[] words = {"a", "b", "z", "aa", "ab", "az", "ba", "zz", "aaa", "aab", "abz", "zzz", "aaaa", "aaab", "abzz",
            "zzzz"};
        for (String letters : words) {
            for (String word : words) {
                dueMatch("c=" + letters, 0, 0, word, word.equals(letters));
                dueMatch("c!" + letters, 0, 0, word, !word.equals(letters));
                dueMatch("c^" + letters, 0, 0, word, word.startsWith(letters));
            }
        }
    }

    /** "A filter MATCHES a note when all its conditions hold." */
    private static void allConditions() {
        dueMatch("a=1&b=2&c=x", 1, 2, "x", true);
        dueMatch("a=1&b=2&c=x", 0, 2, "x", false);
        dueMatch("a=1&b=2&c=x", 1, 1, "x", false);
        dueMatch("a=1&b=2&c=x", 1, 2, "y", false);
        dueMatch("a!1&a!2&a!3", 1, 0, "", false);
        dueMatch("a!1&a!2&a!3", 2, 0, "", false);
        dueMatch("a!1&a!2&a!3", 3, 0, "", false);
        dueMatch("a!1&a!2&a!3", 4, 0, "", true);
        dueMatch("a[5&a]5&a=5", 5, 0, "", true);
        dueMatch("a[5&a]5&a!5", 5, 0, "", false);
        dueMatch("a<5&a>5", 5, 0, "", false);
        dueMatch("c^a&c^ab&c^abc", 0, 0, "abcd", true);
        dueMatch("c^a&c^ab&c!abcd", 0, 0, "abcd", false);
        dueMatch("c^abc&c^ab&c^b", 0, 0, "abcd", false);
    }

    /** "A filter F COVERS a filter G, when each note that G matches is one that F matches." */
    private static void coversAtTheEnds() {
        for (char x : new char[] {'a', 'b'}) {
            dueAlikeNumbers(x, "x>-999", "x!-999", true);
            dueAlikeNumbers(x, "x<999", "x!999", true);
            dueAlikeNumbers(x, "x[-999", "x]999", true);
            dueAlikeNumbers(x, "x>998", "x=999", true);
            dueAlikeNumbers(x, "x<-998", "x=-999", true);
            dueAlikeNumbers(x, "x!999&x!998", "x<998", true);
            dueAlikeNumbers(x, "x!998&x!997", "x<997", false);
            dueAlikeNumbers(x, "x>4&x<6", "x=5", true);
            dueAlikeNumbers(x, "x>4&x<7", "x=5", false);
            dueAlikeNumbers(x, "x>4&x<7&x!6", "x=5", true);
            dueAlikeNumbers(x, "x>4&x<8&x!6", "x[5&x]7", false);
        }
        dueAlike("a>5", "b>5", false);
        dueAlike("c^abcd", "c=abcd", true);
        dueAlike("c^abc", "c=abc", false);
        dueAlike("c^abc&c!abc", "c^abc", false);
        dueAlike("c^a&c^ab", "c^ab", true);
        dueAlike("a[-999&c=a", "c=a", false);
        due("without b", Checks.covers(new BrokerTree(0), "b[-999 a=1"), false);
        due("without c", Checks.covers(new BrokerTree(0), "c!a a=1"), false);
        due("itself", Checks.covers(new BrokerTree(0), "a!1&b!2&c!x a!1&b!2&c!x"), true);
    }

    private static void dueAlikeNumbers(char attribute, String first, String second, boolean want) {
        dueAlike(first.replace('x', attribute), second.replace('x', attribute), want);
    }

    private static void dueAlike(String first, String second, boolean want) {
        BrokerTree tree = new BrokerTree(0);
        String one = Checks.covers(tree, first + " " + second);
        String other = Checks.covers(tree, second + " " + first);
        due(first + " alike " + second, one.equals("true") && other.equals("true"), want);
    }

    /** "(All notes that there can be count, whether they were ever published or not.)" */
    private static void coversWhatIsNotPublished() {
        BrokerTree tree = new BrokerTree(STAR);
        Checks.publish(tree, 0, 7, 7, "x");
        due("before", Checks.covers(tree, "a=7 a>6"), false);
        Checks.subscribe(tree, 1, "a=7");
        Checks.subscribe(tree, 1, "a>6");
        due("told instead", tree.count(2) + " " + tree.count(3), "2 1");
        due("words far away", Checks.covers(tree, "c!zzzz c^zzz"), false);
        due("numbers far away", Checks.covers(tree, "a!-999 a<998"), false);
    }

    /** The same two sentences: all notes of a filter that matches none are matched by each one. */
    private static void filtersThatMatchNothing() {
        String[] none = {"a<-999", "b>999", "a=1&a=2", "a!1&a=1", "b>1&b<2", "c=a&c=b", "c^a&c^b", "c^ab&c=a", "c^abcd&c!abcd"};
        String[] some = {"a=1", "b[-999", "c^a", "c^abc&c!abc"};
        for (String empty : none) {
            dueMatch(empty, 1, 1, "a", false);
            for (String other : none) {
                if (empty.length() + other.length() < 30) {
                    dueAlike(empty, other, true);
                }
            }
            for (String other : some) {
                due(other + " covers " + empty, Checks.covers(new BrokerTree(0), other + " " + empty), true);
                due(empty + " covers " + other, Checks.covers(new BrokerTree(0), empty + " " + other), false);
            }
        }
    }

    /** "Two filters are ALIKE when each covers the other one." */
    private static void alike() {
        BrokerTree tree = new BrokerTree(STAR);
        Checks.subscribe(tree, 1, "a=5");
        Checks.subscribe(tree, 1, "a=005");
        Checks.subscribe(tree, 7, "a>4&a<6");
        Checks.subscribe(tree, 1, "a]5&a[5&a=5");
        due("one TELL of four", tree.count(2), 1);
        for (int k = 0; k < 3; k++) {
            Checks.unsubscribe(tree, k);
        }
        due("no DROP of three", tree.count(3), 0);
        Checks.unsubscribe(tree, 3);
        due("one DROP", tree.count(3), 1);
        Checks.subscribe(tree, 1, "a=-0");
        Checks.subscribe(tree, 1, "a=0");
        due("-0 is 0", tree.count(2), 2);
    }

    /** "numbered 0, 1, .. as they are made anywhere, at most 16 ever made." */
    private static void sixteenEver() {
        BrokerTree tree = new BrokerTree(CHAIN);
        for (int k = 0; k < 16; k++) {
            due("number", Checks.subscribe(tree, (5 * k + 3) % 8, "a=1"), k);
            due("ended", Checks.unsubscribe(tree, k), "done");
        }
        String before = Checks.state(tree);
        due("17th", Checks.subscribe(tree, 0, "a=1"), NO_STATE);
        due("18th", Checks.subscribe(tree, 7, "b=1"), NO_STATE);
        due("nothing came of them", Checks.state(tree), before);
    }

    /** The same sentence: rows hold as many filters as there can be subscriptions. */
    private static void fullRows() {
        BrokerTree tree = new BrokerTree(CHAIN);
        for (int k = 0; k < 16; k++) {
            Checks.subscribe(tree, k % 2 * 6, "b=" + k);
        }
        due("all TELLs", tree.run(), 80);
        due("told", tree.filters(0, 1, false) + " " + tree.filters(4, 5, false), "16 16");
        due("heard", tree.filters(1, 0, true) + " " + tree.filters(5, 4, true), "16 16");
        Checks.publish(tree, 5, 0, 15, "");
        due("the last one's note", tree.run() + " " + Checks.read(tree, 6), "5 0");
        for (int k = 0; k < 16; k++) {
            Checks.unsubscribe(tree, k);
        }
        due("all DROPs", tree.run(), 80);
        due("none told", tree.filters(0, 1, false) + " " + tree.filters(4, 5, false), "0 0");
        due("none heard", tree.filters(1, 0, true) + " " + tree.filters(5, 4, true), "0 0");
    }

    /** "the filters of the subscriptions at the broker .. and behind them those heard from its other neighbours": none. */
    private static void needWithoutSubscriptions() {
        BrokerTree tree = new BrokerTree(CHAIN);
        Checks.subscribe(tree, 0, "a=1");
        due("one step", Checks.take(tree, 0, 1), 0);
        due("needed for the other neighbour", tree.filters(1, 2, false), 1);
        due("not for the one it was heard from", tree.filters(1, 0, false), 0);
        tree.run();
        due("nothing for the last broker's only neighbour", tree.filters(5, 4, false), 0);
    }

    /** "but a filter that another one in this row covers is left out". */
    private static void needLeavesOut() {
        BrokerTree tree = new BrokerTree(STAR);
        Checks.subscribe(tree, 1, "a>5");
        Checks.subscribe(tree, 1, "a>6");
        due("by an earlier one", tree.count(2) + " " + tree.count(3), "1 0");
        Checks.subscribe(tree, 7, "a>4");
        due("by a later one", tree.count(2) + " " + tree.count(3), "2 1");
        Checks.unsubscribe(tree, 2);
        due("only the wider one comes back", tree.count(2) + " " + tree.count(3), "3 2");
        Checks.unsubscribe(tree, 0);
        due("then the narrower one", tree.count(2) + " " + tree.count(3), "4 3");
        due("and it alone", tree.filters(1, 0, false), 1);
        tree.run();
        Checks.subscribe(tree, 0, "a>3");
        due("not for the neighbour that told it", tree.filters(0, 1, false) + " " + tree.filters(0, 2, false), "1 1");
        Checks.subscribe(tree, 2, "a[-999");
        tree.run();
        due("by a heard one", tree.filters(0, 1, false) + " " + tree.filters(0, 2, false), "1 1");
    }

    /** "unless they are alike and it is the earlier one." */
    private static void needOfAlikeOnes() {
        BrokerTree tree = new BrokerTree(STAR);
        Checks.subscribe(tree, 2, "a=1");
        Checks.subscribe(tree, 2, "a=2");
        Checks.subscribe(tree, 1, "a>1&a<3");
        tree.run();
        Checks.subscribe(tree, 0, "a=9");
        due("told to broker 3: 9, 2 and 1", tree.filters(0, 3, false), 3);
        due("told to broker 1: 9, 1 and 2", tree.filters(0, 1, false), 3);
        due("told to broker 2: 9 and 2", tree.filters(0, 2, false), 2);
        Checks.unsubscribe(tree, 1);
        due("one DROP to broker 0, one on to broker 1", tree.run() - 5, 2);
        due("the other one stays", tree.filters(0, 3, false) + " " + tree.filters(0, 1, false), "3 2");
    }

    /** "for each filter of the need .. a TELL ..; then for each one told .. not alike one of the need: .. a DROP". */
    private static void settlingTellsFirst() {
        BrokerTree tree = new BrokerTree(STAR);
        Checks.subscribe(tree, 1, "a=1");
        Checks.subscribe(tree, 1, "a=2");
        Checks.subscribe(tree, 1, "a=3");
        Checks.subscribe(tree, 1, "a>0");
        for (int k = 0; k < 4; k++) {
            due("TELL " + k, Checks.take(tree, 1, 0), 0);
        }
        dueHeardMatch(tree, 3, 1);
        due("first DROP", Checks.take(tree, 1, 0), 1);
        due("second DROP", Checks.take(tree, 1, 0), 1);
        due("two are heard", tree.filters(0, 1, true), 2);
        due("third DROP", Checks.take(tree, 1, 0), 1);
        due("nothing more", Checks.take(tree, 1, 0), NO_ELEMENT);
        Checks.unsubscribe(tree, 3);
        due("three TELLs and a DROP", tree.waiting(1, 0), 4);
        Checks.subscribe(tree, 1, "a=2");
        due("an alike one was told", tree.waiting(1, 0), 4);
        due("a TELL is the first", Checks.take(tree, 1, 0), 0);
        Checks.take(tree, 1, 0);
        Checks.take(tree, 1, 0);
        due("the DROP is the last", Checks.take(tree, 1, 0), 1);
        dueHeardMatch(tree, 1, 1);
        dueHeardMatch(tree, 4, 0);
    }

    private static void dueHeardMatch(BrokerTree tree, int a, int want) {
        int before = tree.waiting(0, 1);
        Checks.publish(tree, 0, a, 0, "");
        due("a note with " + a + " goes there", tree.waiting(0, 1) - before, want);
    }

    /** "it is brought to each client there, in order, that has a subscription whose filter matches it (once)". */
    private static void handledOnce() {
        BrokerTree tree = new BrokerTree(STAR);
        for (String filter : new String[] {"a=1", "a>0", "b=1", "c^x"}) {
            Checks.subscribe(tree, 1, filter);
            Checks.subscribe(tree, 7, filter);
        }
        Checks.subscribe(tree, 0, "a=1");
        tree.run();
        Checks.publish(tree, 1, 1, 1, "x");
        due("once to each", tree.count(1), 2);
        due("once into the line", tree.waiting(1, 0), 1);
        due("to both", Checks.read(tree, 1) + Checks.read(tree, 7), "00");
        due("no more", Checks.read(tree, 1) + Checks.read(tree, 7), NO_ELEMENT + NO_ELEMENT);
    }

    /** "A message is TAKEN .. by the broker at its end: TELL: .. DROP: .. then that broker settles": with nobody to tell. */
    private static void takenByALeaf() {
        BrokerTree tree = new BrokerTree(STAR);
        Checks.subscribe(tree, 0, "a=1");
        due("TELL", Checks.take(tree, 0, 5), 0);
        due("heard", tree.filters(5, 0, true), 1);
        due("nothing told back", tree.filters(5, 0, false) + " " + tree.waiting(5, 0), "0 0");
        Checks.unsubscribe(tree, 0);
        due("DROP", Checks.take(tree, 0, 5), 1);
        due("heard no more", tree.filters(5, 0, true), 0);
        Checks.publish(tree, 5, 1, 1, "");
        due("no note goes there", tree.count(0), 0);
    }

    /** "A note is handled likewise, but not put into the line back to where it came from." */
    private static void takenNotBack() {
        BrokerTree tree = new BrokerTree(STAR);
        for (int client = 0; client < 6; client++) {
            Checks.subscribe(tree, client, "a=1");
        }
        tree.run();
        Checks.publish(tree, 3, 1, 0, "");
        due("one way from broker 3", tree.count(0), 1);
        due("taken by broker 0", Checks.take(tree, 3, 0), 2);
        due("on to the four others", tree.count(0), 5);
        due("not back", tree.waiting(0, 3), 0);
        due("four more", tree.run(), 4);
        due("each broker's client once", tree.count(1), 6);
    }

    private static void dueFilter(String text, boolean want) {
        BrokerTree tree = new BrokerTree(STAR);
        due("filter " + text, Checks.subscribe(tree, 0, text), want ? "0" : NO_ARGUMENT);
    }

    /** Whether a filter matches a note, at a client's own broker and at one that has heard the filter. */
    private static void dueMatch(String filter, int a, int b, String c, boolean want) {
        BrokerTree tree = new BrokerTree(STAR);
        Checks.subscribe(tree, 1, filter);
        Checks.take(tree, 1, 0);
        String note = filter + " of " + a + ", " + b + ", " + c;
        Checks.publish(tree, 1, a, b, c);
        due("brought, " + note, tree.count(1), want ? 1 : 0);
        Checks.publish(tree, 0, a, b, c);
        due("sent, " + note, tree.count(0), want ? 1 : 0);
    }
}

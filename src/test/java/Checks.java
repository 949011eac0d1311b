import java.util.NoSuchElementException;

/** What the tests share: calls whose answers, thrown ones too, are texts, and the tally of the wrong ones. */
final class Checks {
    static final String NO_ARGUMENT = "throws.IllegalArgumentException";
    static final String NO_STATE = "throws.IllegalStateException";
    static final String NO_ELEMENT = "throws.NoSuchElementException";
    static final int NOTHING = 1000;
    /** Broker k beside broker k - 1 for each k. */
    static final int CHAIN = 1 << 3 | 2 << 6 | 3 << 9 | 4 << 12;
    /** Each broker beside broker 0. */
    static final int STAR = 0;

    private static int wrong = 0;

    private Checks() {
    }

    static void due(String what, Object got, Object want) {
        if (!String.valueOf(want).equals(String.valueOf(got))) {
            wrong++;
            System.out.println(what + " answered " + got + ", due is " + want);
        }
    }

    static void end(String name) {
        System.out.println(name + ": " + (wrong == 0 ? "all answers are as due" : wrong + " answers are not as due"));
        if (wrong != 0) {
            System.exit(1);
        }
    }

    interface Call {
        Object answer();
    }

    static String answer(Call call) {
        try {
            return String.valueOf(call.answer());
        } catch (IllegalStateException e) {
            return NO_STATE;
        } catch (IllegalArgumentException e) {
            return NO_ARGUMENT;
        } catch (NoSuchElementException e) {
            return NO_ELEMENT;
        } catch (RuntimeException e) {
            return "throws." + e.getClass().getName();
        }
    }

    static void text(BrokerTree tree, String text) {
        for (int k = 0; k < text.length(); k++) {
            tree.write(text.charAt(k));
        }
    }

    static String subscribe(BrokerTree tree, int client, String filter) {
        text(tree, filter);
        return answer(() -> tree.subscribe(client));
    }

    static String unsubscribe(BrokerTree tree, int subscription) {
        return answer(() -> {
            tree.unsubscribe(subscription);
            return "done";
        });
    }

    static String publish(BrokerTree tree, int client, int a, int b, String c) {
        text(tree, c);
        return answer(() -> tree.publish(client, a, b));
    }

    static String take(BrokerTree tree, int from, int to) {
        return answer(() -> tree.take(from, to));
    }

    static String read(BrokerTree tree, int client) {
        return answer(() -> tree.read(client));
    }

    static String covers(BrokerTree tree, String draft) {
        text(tree, draft);
        return answer(tree::covers);
    }

    /** All that can be seen of an object without changing it. */
    static String state(BrokerTree tree) {
        StringBuilder state = new StringBuilder();
        for (int what = 0; what < 4; what++) {
            state.append(tree.count(what)).append(' ');
        }
        for (int broker = 0; broker < 6; broker++) {
            for (int other = 0; other < 6; other++) {
                state.append(tree.waiting(broker, other)).append(',').append(tree.filters(broker, other, false))
                        .append(',').append(tree.filters(broker, other, true)).append(' ');
            }
        }
        return state.toString();
    }

    /** The draft is empty when two filters written now stand in it alone. */
    static void dueEmptyDraft(String what, BrokerTree tree) {
        due(what + ": empty draft", covers(tree, "a=1 a=1"), true);
    }
}

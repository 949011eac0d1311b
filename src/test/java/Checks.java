import java.util.NoSuchElementException;

/** What the tests share: calls whose answers, thrown ones too, are texts, and the tally of the wrong ones. */
final class Checks {
    private static int wrong = 0;

    private Checks() {
    }

    static void due(String what, Object got, Object want) {
        if (!String.valueOf(want).equals(String.valueOf(got))) {
            wrong++;
            System.out.println(what + " answered " + got + ", due is " + want);
        }
    }

    static void end(String name) {
        System.out.println(name + ": " + (wrong == 0 ? "all answers are as due" : wrong + " answers are not as due"));
        if (wrong != 0) {
            System.exit(1);
        }
    }

    interface Call {
        Object answer();
    }

    static String answer(Call call) {
        try {
            return String.valueOf(call.answer());
        } catch (IllegalStateException e) {
            return "throws.IllegalStateException";
        } catch (IllegalArgumentException e) {
            return "throws.IllegalArgumentException";
        } catch (NoSuchElementException e) {
            return "throws.NoSuchElementException";
        } catch (RuntimeException e) {
            return "throws." + e.getClass().getName();
        }
    }

    static void text(BrokerTree tree, String text) {
        for (int k = 0; k < text.length(); k++) {
            tree.write(text.charAt(k));
        }
    }

    static String subscribe(BrokerTree tree, int client, String filter) {
        text(tree, filter);
        return answer(() -> tree.subscribe(client));
    }

    static String unsubscribe(BrokerTree tree, int subscription) {
        return answer(() -> {
            tree.unsubscribe(subscription);
            return "done";
        });
    }

    static String publish(BrokerTree tree, int client, int a, int b, String c) {
        text(tree, c);
        return answer(() -> tree.publish(client, a, b));
    }

    static String take(BrokerTree tree, int from, int to) {
        return answer(() -> tree.take(from, to));
    }

    static String read(BrokerTree tree, int client) {
        return answer(() -> tree.read(client));
    }

    static String covers(BrokerTree tree, String draft) {
        text(tree, draft);
        return answer(tree::covers);
    }
}

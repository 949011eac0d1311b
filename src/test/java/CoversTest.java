import java.util.ArrayList;
import java.util.List;

/** Whether filters cover one another: against the model, and the model's few notes against all that there can be. */
public final class CoversTest {
    private static final String[] NUMBERS = {
        "a=0", "a!0", "a<0", "a>0", "a[0", "a]0", "a=1", "a!1", "a<2", "a>-1&a<2", "a>-1&a<2&a!0", "a!0&a!1&a>-1", "a[1&a]1",
        "a>0&a<1", "a=0&a!0", "a=0&a=1", "a[-999", "a]999", "a<-999", "a>999", "a>998", "a<-998", "a!-999", "a!999",
        "a!999&a!998&a!997", "a<997", "a=-999", "a=999", "a!-999&a!-998&a!-997", "a>-997", "a[-996", "a]0&a!0", "a]-1"
    };
    private static final String[] WORDS = {
        "c=a", "c!a", "c^a", "c=ab", "c!ab", "c^ab", "c=abc", "c!abc", "c^abc", "c=abcd", "c!abcd", "c^abcd", "c^a&c!a",
        "c^ab&c!ab", "c^abc&c!abc", "c^abcd&c!abcd", "c^abc&c!abcd", "c^a&c^ab", "c^a&c^b", "c^a&c=b", "c=a&c=b", "c^a&c=ab",
        "c^ab&c=a", "c=a&c!a", "c!a&c!b", "c^z", "c=zzzz", "c^zzzz", "c!zzzz", "c^zzz&c!zzz&c!zzzz", "c!a&c!ab&c!abc",
        "c^aa&c!aaa", "c!aaa", "c^aaa&c!aaaa", "c^aaa&c!aaa&c!aaaa", "c!a&c^a"
    };
    private static final String[] MIXED = {
        "a=0", "b=0", "a=0&b=0", "b!0", "a!0&b!0", "a=0&c=a", "c=a", "c^a&b>0", "b<-999", "a=0&b=1&b=2", "c=a&c=b&a=0", "a[-999",
        "b[-999", "c!a", "a[-999&b[-999", "a[-999&c!a", "b>0&a>0&c^a", "b>999&c=a", "c^a&b]0", "b=-0", "b=000"
    };

    public static void main(String[] args) {
        pairs(NUMBERS);
        pairs(WORDS);
        pairs(MIXED);
        thrown();
        allNumbers();
        allWords();
        Checks.end("CoversTest");
    }

    private static void pairs(String[] filters) {
        for (String first : filters) {
            for (String second : filters) {
                duePair(first, second);
            }
        }
    }

    private static void thrown() {
        Dice dice = new Dice(11);
        for (int k = 0; k < 20000; k++) {
            duePair(dice.filter(3), dice.filter(3));
        }
    }

    /** Two filters that are too long for one draft are compared by what a broker tells of both. */
    private static void duePair(String first, String second) {
        String draft = first + " " + second;
        BrokerTree tree = new BrokerTree(0);
        if (draft.length() <= 30) {
            Checks.due(draft, Checks.covers(tree, draft), Model.covers(first, second));
        }
        Checks.subscribe(tree, 1, first);
        Checks.subscribe(tree, 1, second);
        Checks.due("tells after " + draft, tree.count(2), Model.covers(first, second) ? 1 : 2);
        Checks.due("drops after " + draft, tree.count(3),
                !Model.covers(first, second) && Model.covers(second, first) ? 1 : 0);
    }

    private static void allNumbers() {
        List<Model.Note> notes = new ArrayList<>();
        notes.add(new Model.Note(null, null, null));
        for (int a = -999; a <= 999; a++) {
            notes.add(new Model.Note(a, null, null));
        }
        dueModel(NUMBERS, notes);
    }

    private static void allWords() {
        List<Model.Note> notes = new ArrayList<>();
        notes.add(new Model.Note(null, null, null));
        List<String> words = new ArrayList<>();
        words.add("");
        for (int k = 0; k < 1 + 26 + 26 * 26 + 26 * 26 * 26; k++) {
            for (char letter = 'a'; letter <= 'z'; letter++) {
                words.add(words.get(k) + letter);
                notes.add(new Model.Note(null, null, words.get(k) + letter));
            }
        }
        Checks.due("how many words", words.size() - 1, 26 + 26 * 26 + 26 * 26 * 26 + 26 * 26 * 26 * 26);
        dueModel(WORDS, notes);
    }

    private static void dueModel(String[] filters, List<Model.Note> notes) {
        boolean[][] matched = new boolean[filters.length][notes.size()];
        for (int k = 0; k < filters.length; k++) {
            for (int n = 0; n < notes.size(); n++) {
                matched[k][n] = Model.matches(filters[k], notes.get(n));
            }
        }
        for (int k = 0; k < filters.length; k++) {
            for (int m = 0; m < filters.length; m++) {
                boolean covers = true;
                for (int n = 0; n < notes.size() && covers; n++) {
                    covers = matched[k][n] || !matched[m][n];
                }
                Checks.due("the model of " + filters[k] + " " + filters[m], Model.covers(filters[k], filters[m]), covers);
            }
        }
    }
}

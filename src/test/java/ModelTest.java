import java.util.ArrayList;
import java.util.List;

/** Long runs of mixed calls on the program and on the model, which must answer the same. */
public final class ModelTest {
    private static final int RUNS = 800;
    private static final int CALLS = 512;

    private final Dice dice;
    private final BrokerTree tree;
    private final Model model;
    private final String name;
    private final int mood;
    private int calls;

    private ModelTest(int run) {
        dice = new Dice(run);
        int shape = run % 5 == 0 ? 1 << 3 | 2 << 6 | 3 << 9 | 4 << 12 : dice.below(1 << 15) - (run % 2) * (1 << 20);
        tree = new BrokerTree(shape);
        model = new Model(shape);
        name = "run " + run + " of shape " + shape;
        mood = run % 4;
    }

    public static void main(String[] args) {
        for (int run = 0; run < RUNS; run++) {
            new ModelTest(run).play();
        }
        Checks.end("ModelTest");
    }

    private void play() {
        while (calls < CALLS - 40) {
            step();
        }
        for (int broker = 0; broker < 6; broker++) {
            for (int other = 0; other < 6; other++) {
                look(broker, other);
            }
        }
    }

    private void step() {
        int choice = dice.below(20);
        if (choice < 3) {
            draft(dice.once(12) ? broken() : dice.filter(mood == 1 ? 1 : 3));
            int client = client();
            due("subscribe " + client, Checks.answer(() -> tree.subscribe(client)), model.subscribe(client));
        } else if (choice < 5) {
            int number = dice.below(17) - (dice.once(20) ? 2 : 0);
            due("unsubscribe " + number, Checks.unsubscribe(tree, number), model.unsubscribe(number));
        } else if (choice < 8) {
            publish();
        } else if (choice < 13) {
            int from = dice.below(6);
            int to = dice.below(6);
            due("take " + from + " " + to, Checks.take(tree, from, to), model.take(from, to));
        } else if (choice < 14) {
            if (mood != 2) {
                due("run", tree.run(), model.run());
            }
        } else if (choice < 16) {
            int client = client();
            due("read " + client, Checks.read(tree, client), model.read(client));
        } else if (choice < 17) {
            draft(dice.filter(2) + (dice.once(15) ? "  " : " ") + dice.filter(2));
            due("covers", Checks.answer(tree::covers), model.covers());
        } else {
            look(dice.below(8) - 1, dice.below(8) - 1);
        }
    }

    private void publish() {
        draft(dice.once(3) ? "" : dice.once(15) ? "abcde" : dice.letters());
        int client = client();
        int a = number();
        int b = number();
        due("publish " + client + " " + a + " " + b, Checks.answer(() -> tree.publish(client, a, b)),
                model.publish(client, a, b));
    }

    private void look(int broker, int other) {
        due("waiting " + broker + " " + other, tree.waiting(broker, other), model.waiting(broker, other));
        due("told " + broker + " " + other, tree.filters(broker, other, false), model.filters(broker, other, false));
        due("heard " + broker + " " + other, tree.filters(broker, other, true), model.filters(broker, other, true));
        int what = dice.below(6) - 1;
        due("count " + what, tree.count(what), model.count(what));
    }

    private void draft(String text) {
        List<String> got = new ArrayList<>();
        List<String> want = new ArrayList<>();
        for (char c : text.toCharArray()) {
            got.add(String.valueOf(tree.write(c)));
            want.add(model.write(c));
        }
        calls += text.length();
        due("write " + text, got, want);
    }

    private String broken() {
        String filter = dice.filter(3);
        int place = dice.below(filter.length());
        char strange = (char) (32 + dice.below(95));
        return filter.substring(0, place) + strange + filter.substring(place + dice.below(2));
    }

    private int client() {
        return dice.once(30) ? (dice.once(2) ? -1 : 8) : dice.below(8);
    }

    private int number() {
        int[] edges = {-1000, -999, -998, 998, 999, 1000, 1000, 1000, 1001};
        return dice.once(3) ? edges[dice.below(edges.length)] : dice.below(6) - 1;
    }

    private void due(String call, Object got, Object want) {
        calls++;
        Checks.due(name + ": " + call, got, want);
    }
}

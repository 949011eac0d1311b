import java.util.ArrayList;
import java.util.HashMap;
import java.util.List;
import java.util.Map;
import java.util.TreeSet;
import java.util.regex.Pattern;

/**
 * The document once more, as slow and as close to its words as can be: filters stay texts, and whether
 * one covers another one is found by trying notes.
 */
final class Model {
    private static final Pattern FILTER = Pattern.compile("C(&C){0,2}".replace("C", "([ab][=!<>\\[\\]]-?[0-9]{1,3}|c[=!^][a-z]{1,4})"));
    private static final Map<String, Boolean> COVERS = new HashMap<>();

    record Note(Integer a, Integer b, String c) {
    }

    record Message(int kind, String filter, int note) {
    }

    private String draft = "";
    private final boolean[][] beside = new boolean[6][6];
    private final List<List<List<String>>> told = table();
    private final List<List<List<String>>> heard = table();
    private final List<List<List<Message>>> lines = table();
    private final List<String> filters = new ArrayList<>();
    private final List<Integer> clients = new ArrayList<>();
    private final List<Boolean> live = new ArrayList<>();
    private final List<Note> notes = new ArrayList<>();
    private final List<List<Integer>> brought = new ArrayList<>();
    private final int[] counts = new int[4];

    Model(int shape) {
        for (int k = 1; k < 6; k++) {
            int m = (shape >> 3 * (k - 1) & 7) % k;
            beside[k][m] = true;
            beside[m][k] = true;
        }
        for (int client = 0; client < 8; client++) {
            brought.add(new ArrayList<>());
        }
    }

    private static <T> List<List<List<T>>> table() {
        List<List<List<T>>> rows = new ArrayList<>();
        for (int k = 0; k < 6; k++) {
            rows.add(new ArrayList<>());
            for (int m = 0; m < 6; m++) {
                rows.get(k).add(new ArrayList<>());
            }
        }
        return rows;
    }

    static boolean isFilter(String text) {
        return text.length() <= 30 && FILTER.matcher(text).matches();
    }

    static boolean matches(String filter, Note note) {
        for (String condition : filter.split("&")) {
            if (!holds(condition.charAt(0), condition.charAt(1), condition.substring(2), note)) {
                return false;
            }
        }
        return true;
    }

    private static boolean holds(char attribute, char sign, String value, Note note) {
        if (attribute == 'c') {
            if (note.c() == null) {
                return false;
            }
            return sign == '=' ? note.c().equals(value) : sign == '!' ? !note.c().equals(value) : note.c().startsWith(value);
        }
        Integer has = attribute == 'a' ? note.a() : note.b();
        if (has == null) {
            return false;
        }
        int number = Integer.parseInt(value);
        return switch (sign) {
            case '=' -> has == number;
            case '!' -> has != number;
            case '<' -> has < number;
            case '>' -> has > number;
            case '[' -> has >= number;
            default -> has <= number;
        };
    }

    static boolean covers(String first, String second) {
        return COVERS.computeIfAbsent(first + " " + second, key -> tryNotes(first, second));
    }

    private static boolean tryNotes(String first, String second) {
        List<Integer> as = numbers('a', first, second);
        List<Integer> bs = numbers('b', first, second);
        List<String> cs = words(first, second);
        for (Integer a : as) {
            for (Integer b : bs) {
                for (String c : cs) {
                    Note note = new Note(a, b, c);
                    if (matches(second, note) && !matches(first, note)) {
                        return false;
                    }
                }
            }
        }
        return true;
    }

    /** Nothing, and of the numbers those near the ends and near the ones of the filters: the others behave like one of these. */
    private static List<Integer> numbers(char attribute, String first, String second) {
        TreeSet<Integer> sorted = new TreeSet<>();
        for (String condition : (first + "&" + second).split("&")) {
            if (condition.charAt(0) == attribute) {
                int number = Integer.parseInt(condition.substring(2));
                for (int near = -4; near <= 4; near++) {
                    sorted.add(Math.max(-999, Math.min(999, number + near)));
                }
            }
        }
        List<Integer> numbers = new ArrayList<>(sorted);
        numbers.add(null);
        return numbers;
    }

    /** Nothing, and the words of the filters, their beginnings, and these with each letter behind. */
    private static List<String> words(String first, String second) {
        TreeSet<String> sorted = new TreeSet<>();
        for (String condition : (first + "&" + second).split("&")) {
            if (condition.charAt(0) == 'c') {
                for (int size = 0; size <= condition.length() - 2; size++) {
                    String start = condition.substring(2, 2 + size);
                    sorted.add(start);
                    for (char letter = 'a'; letter <= 'z' && size < 4; letter++) {
                        sorted.add(start + letter);
                    }
                }
            }
        }
        sorted.remove("");
        List<String> words = new ArrayList<>(sorted);
        words.add(null);
        return words;
    }

    private static boolean alike(String first, String second) {
        return covers(first, second) && covers(second, first);
    }

    private static boolean hasAlike(List<String> row, String filter) {
        return row.stream().anyMatch(other -> alike(other, filter));
    }

    private List<String> need(int broker, int neighbour) {
        List<String> row = new ArrayList<>();
        for (int k = 0; k < filters.size(); k++) {
            if (live.get(k) && clients.get(k) % 6 == broker) {
                row.add(filters.get(k));
            }
        }
        for (int other = 0; other < 6; other++) {
            if (beside[broker][other] && other != neighbour) {
                row.addAll(heard.get(broker).get(other));
            }
        }
        List<String> need = new ArrayList<>();
        for (int k = 0; k < row.size(); k++) {
            boolean left = false;
            for (int m = 0; m < row.size(); m++) {
                if (m != k && covers(row.get(m), row.get(k)) && !(alike(row.get(m), row.get(k)) && k < m)) {
                    left = true;
                }
            }
            if (!left) {
                need.add(row.get(k));
            }
        }
        return need;
    }

    private void settle(int broker) {
        for (int neighbour = 0; neighbour < 6; neighbour++) {
            if (!beside[broker][neighbour]) {
                continue;
            }
            List<String> need = need(broker, neighbour);
            List<String> row = told.get(broker).get(neighbour);
            for (String filter : need) {
                if (!hasAlike(row, filter)) {
                    row.add(filter);
                    lines.get(broker).get(neighbour).add(new Message(0, filter, -1));
                    counts[2]++;
                }
            }
            for (String filter : new ArrayList<>(row)) {
                if (!hasAlike(need, filter)) {
                    row.remove(filter);
                    lines.get(broker).get(neighbour).add(new Message(1, filter, -1));
                    counts[3]++;
                }
            }
        }
    }

    private void handle(int number, int broker, int from) {
        Note note = notes.get(number);
        for (int client = 0; client < 8; client++) {
            boolean wants = false;
            for (int k = 0; k < filters.size(); k++) {
                wants |= live.get(k) && clients.get(k) == client && client % 6 == broker && matches(filters.get(k), note);
            }
            if (wants) {
                brought.get(client).add(number);
                counts[1]++;
            }
        }
        for (int neighbour = 0; neighbour < 6; neighbour++) {
            if (neighbour != from && heard.get(broker).get(neighbour).stream().anyMatch(filter -> matches(filter, note))) {
                lines.get(broker).get(neighbour).add(new Message(2, null, number));
                counts[0]++;
            }
        }
    }

    private int takeFirst(int from, int to) {
        Message message = lines.get(from).get(to).remove(0);
        List<String> row = heard.get(to).get(from);
        if (message.kind() == 2) {
            handle(message.note(), to, from);
        } else if (message.kind() == 0 && !hasAlike(row, message.filter())) {
            row.add(message.filter());
        } else if (message.kind() == 1) {
            row.removeIf(filter -> alike(filter, message.filter()));
        }
        if (message.kind() != 2) {
            settle(to);
        }
        return message.kind();
    }

    private boolean isLine(int from, int to) {
        return from >= 0 && from < 6 && to >= 0 && to < 6 && beside[from][to];
    }

    private String draftTaken() {
        String text = draft;
        draft = "";
        return text;
    }

    String write(char c) {
        if (c < 32 || c > 126 || draft.length() == 30) {
            return "false";
        }
        draft += c;
        return "true";
    }

    String subscribe(int client) {
        String text = draftTaken();
        if (client < 0 || client > 7 || !isFilter(text)) {
            return "throws.IllegalArgumentException";
        }
        if (filters.size() == 16) {
            return "throws.IllegalStateException";
        }
        filters.add(text);
        clients.add(client);
        live.add(true);
        settle(client % 6);
        return String.valueOf(filters.size() - 1);
    }

    String unsubscribe(int number) {
        if (number < 0 || number >= filters.size() || !live.get(number)) {
            return "throws.NoSuchElementException";
        }
        live.set(number, false);
        settle(clients.get(number) % 6);
        return "done";
    }

    String publish(int client, int a, int b) {
        String text = draftTaken();
        if (client < 0 || client > 7 || a < -999 || a > 1000 || b < -999 || b > 1000 || !text.matches("[a-z]{0,4}")) {
            return "throws.IllegalArgumentException";
        }
        notes.add(new Note(a == 1000 ? null : Integer.valueOf(a), b == 1000 ? null : Integer.valueOf(b),
                text.isEmpty() ? null : text));
        handle(notes.size() - 1, client % 6, -1);
        return String.valueOf(notes.size() - 1);
    }

    String take(int from, int to) {
        if (!isLine(from, to) || lines.get(from).get(to).isEmpty()) {
            return "throws.NoSuchElementException";
        }
        return String.valueOf(takeFirst(from, to));
    }

    String waiting(int from, int to) {
        return isLine(from, to) ? String.valueOf(lines.get(from).get(to).size()) : "-1";
    }

    String run() {
        int taken = 0;
        while (taken < 200 && takeLeast()) {
            taken++;
        }
        return String.valueOf(taken);
    }

    private boolean takeLeast() {
        for (int from = 0; from < 6; from++) {
            for (int to = 0; to < 6; to++) {
                if (!lines.get(from).get(to).isEmpty()) {
                    takeFirst(from, to);
                    return true;
                }
            }
        }
        return false;
    }

    String read(int client) {
        if (client < 0 || client > 7) {
            return "throws.IllegalArgumentException";
        }
        return brought.get(client).isEmpty() ? "throws.NoSuchElementException" : String.valueOf(brought.get(client).remove(0));
    }

    String filters(int broker, int neighbour, boolean heardOnes) {
        if (!isLine(broker, neighbour)) {
            return "-1";
        }
        return String.valueOf((heardOnes ? heard : told).get(broker).get(neighbour).size());
    }

    String covers() {
        String[] parts = draftTaken().split(" ", -1);
        if (parts.length != 2 || !isFilter(parts[0]) || !isFilter(parts[1])) {
            return "throws.IllegalArgumentException";
        }
        return String.valueOf(covers(parts[0], parts[1]));
    }

    String count(int what) {
        return what < 0 || what > 3 ? "-1" : String.valueOf(counts[what]);
    }
}

/** Numbers that look thrown but are the same in each run. */
final class Dice {
    private long state;

    Dice(long seed) {
        state = seed * 0x9E3779B97F4A7C15L + 1;
    }

    int below(int bound) {
        state = state * 6364136223846793005L + 1442695040888963407L;
        return (int) ((state >>> 33) % bound);
    }

    boolean once(int in) {
        return below(in) == 0;
    }

    String one(String[] of) {
        return of[below(of.length)];
    }

    /** A filter whose conditions are on few attributes and near one another, so that many cover others. */
    String filter(int most) {
        StringBuilder filter = new StringBuilder();
        int conditions = 1 + below(most);
        boolean edge = once(6);
        for (int k = 0; k < conditions; k++) {
            filter.append(k == 0 ? "" : "&").append(once(2) ? number(once(4) ? 'b' : 'a', edge) : word());
        }
        return filter.toString();
    }

    private String number(char attribute, boolean edge) {
        int number = edge ? (once(2) ? 1 : -1) * (996 + below(4)) : below(5) - 1;
        return "" + attribute + "=!<>[]".charAt(below(6)) + number;
    }

    private String word() {
        return "c" + "=!^^".charAt(below(4)) + letters();
    }

    String letters() {
        return "abab".substring(0, 1 + below(4)).replace('b', once(5) ? 'z' : 'b');
    }
}

import java.util.ArrayList;
import java.util.List;

/** ROUNDS found by trying every parting in every order. */
final class PlainRounds {
    private static final int HOUSE = 12;
    private final int[][] minutes;
    private final int[] loads;
    private final int cap;
    private int bestMinutes = Integer.MAX_VALUE;
    private int bestRounds = Integer.MAX_VALUE;
    private List<Integer> bestRow = null;

    /** loads by TABLE, 0 where there is none. */
    PlainRounds(int[][] minutes, int[] loads, int cap) {
        this.minutes = minutes;
        this.loads = loads;
        this.cap = cap;
        List<Integer> all = new ArrayList<>();
        for (int i = 0; i < loads.length; i++) {
            if (loads[i] > 0) {
                all.add(i);
            }
        }
        newRound(all, new ArrayList<>(), 0, 0);
    }

    int minutes() {
        return bestMinutes;
    }

    List<Integer> row() {
        return bestRow;
    }

    private void newRound(List<Integer> rest, List<Integer> row, int spent, int rounds) {
        if (rest.isEmpty()) {
            keep(row, spent, rounds);
            return;
        }
        int size = row.size();
        if (rounds > 0) {
            row.add(HOUSE);
        }
        goOn(rest, row, new int[] {spent, rounds, 0, HOUSE, rest.get(0)}, false);
        while (row.size() > size) {
            row.remove(row.size() - 1);
        }
    }

    // state: spent, rounds ended, grams in the van, where it is, the lowest that is due in this round
    private void goOn(List<Integer> rest, List<Integer> row, int[] state, boolean lowestCome) {
        if (lowestCome) {
            newRound(rest, row, state[0] + minutes[state[3]][HOUSE], state[1] + 1);
        }
        for (int i = 0; i < rest.size(); i++) {
            int next = rest.get(i);
            if (state[2] + loads[next] > cap) {
                continue;
            }
            List<Integer> less = new ArrayList<>(rest);
            less.remove(i);
            row.add(next);
            int[] then = {state[0] + minutes[state[3]][next], state[1], state[2] + loads[next], next, state[4]};
            goOn(less, row, then, lowestCome || next == state[4]);
            row.remove(row.size() - 1);
        }
    }

    private void keep(List<Integer> row, int spent, int rounds) {
        boolean better = spent < bestMinutes;
        if (spent == bestMinutes) {
            better = rounds < bestRounds || rounds == bestRounds && isAhead(row, bestRow);
        }
        if (better) {
            bestMinutes = spent;
            bestRounds = rounds;
            bestRow = new ArrayList<>(row);
        }
    }

    private static boolean isAhead(List<Integer> one, List<Integer> other) {
        for (int i = 0; i < one.size() && i < other.size(); i++) {
            if (!one.get(i).equals(other.get(i))) {
                return one.get(i) < other.get(i);
            }
        }
        return one.size() < other.size();
    }
}

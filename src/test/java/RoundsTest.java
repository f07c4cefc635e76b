import java.util.List;
import java.util.Random;

/** Promises 16 to 19: road, load, rounds, stop. */
public final class RoundsTest {
    private static final Check check = new Check("RoundsTest");

    public static void main(String[] args) {
        road();
        load();
        refusals();
        allNear();
        kept();
        fewestRounds();
        firstRow();
        againstEveryRow();
        check.end();
    }

    private static void row(FoodShares x, int... due) {
        check.due("stop(-1)", x.stop(-1), due.length);
        for (int i = 0; i < due.length; i++) {
            check.due("stop(" + i + ")", x.stop(i), due[i]);
        }
        check.due("stop behind the last", x.stop(due.length), -1);
        check.due("stop(-2)", x.stop(-2), -1);
        check.due("stop(max)", x.stop(Integer.MAX_VALUE), -1);
        check.due("stop(min)", x.stop(Integer.MIN_VALUE), -1);
    }

    private static void road() {
        FoodShares x = new FoodShares();
        check.due("road(0, 1, 0)", x.road(0, 1, 0), 0);
        check.due("road(11, 12, 600)", x.road(11, 12, 600), 0);
        int[][] wrong = {{-1, 0, 1}, {0, -1, 1}, {13, 0, 1}, {0, 13, 1}, {4, 4, 1}, {12, 12, 1}, {0, 1, -1},
            {0, 1, 601}};
        for (int[] w : wrong) {
            check.due("a wrong road", x.road(w[0], w[1], w[2]), -1);
            check.due("its status()", x.status(), -1);
        }
        FoodShares y = Check.withTables(1);
        y.road(0, 12, 7);
        y.load(0, 1);
        check.due("either way alike", y.rounds(1), 14);
        y.road(12, 0, 9);
        check.due("told again", y.rounds(1), 18);
    }

    private static void load() {
        FoodShares x = Check.withTables(10);
        for (int i = 0; i < 8; i++) {
            check.due("load(" + i + ", 5)", x.load(i, 5), i + 1);
        }
        check.due("a ninth", x.load(8, 5), -5);
        check.due("status()", x.status(), -5);
        check.due("one of the eight again", x.load(3, 1000000), 8);
        check.due("none for one that has none", x.load(8, 0), 8);
        check.due("none any more", x.load(3, 0), 7);
        check.due("now there is room", x.load(9, 1), 8);
        check.due("load(8, -1)", x.load(8, -1), -1);
        check.due("load(8, 1000001)", x.load(8, 1000001), -1);
        check.due("load(10, 1000001)", x.load(10, 1000001), -1);
        check.due("load(10, 1)", x.load(10, 1), -2);
        check.due("load(-1, 1)", x.load(-1, 1), -2);
        check.due("load(10, 0)", x.load(10, 0), -2);
    }

    private static void refusals() {
        FoodShares x = Check.withTables(2);
        check.due("rounds(0)", x.rounds(0), -1);
        check.due("rounds(10000001)", x.rounds(10000001), -1);
        check.due("no loads", x.rounds(1), -4);
        x.load(0, 5);
        x.load(1, 7);
        check.due("rounds(6)", x.rounds(6), -5);
        check.due("status()", x.status(), -5);
        check.due("stop(-1), no rounds yet", x.stop(-1), -1);
        check.due("rounds(7)", x.rounds(7), 0);
        check.due("status()", x.status(), 0);
        row(x, 0, 12, 1);
        check.due("rounds(10000000)", x.rounds(10000000), 0);
        row(x, 0, 1);
    }

    private static void allNear() {
        FoodShares x = Check.withTables(12);
        for (int i = 4; i < 12; i++) {
            x.load(i, 1000000);
        }
        check.due("rounds(8000000)", x.rounds(8000000), 0);
        row(x, 4, 5, 6, 7, 8, 9, 10, 11);
        check.due("rounds(7999999)", x.rounds(7999999), 0);
        row(x, 4, 5, 6, 7, 8, 9, 10, 12, 11);
        check.due("rounds(1000000)", x.rounds(1000000), 0);
        row(x, 4, 12, 5, 12, 6, 12, 7, 12, 8, 12, 9, 12, 10, 12, 11);
    }

    private static void kept() {
        FoodShares x = Check.withTables(3);
        x.load(0, 5);
        x.load(2, 5);
        x.road(12, 0, 10);
        x.rounds(10);
        row(x, 0, 2);
        x.load(0, 0);
        x.road(12, 2, 10);
        row(x, 0, 2);
        check.due("rounds(4)", x.rounds(4), -5);
        row(x, 0, 2);
        x.load(2, 0);
        check.due("rounds(4)", x.rounds(4), -4);
        row(x, 0, 2);
        x.load(1, 1);
        check.due("rounds(4)", x.rounds(4), 0);
        row(x, 1);
    }

    private static void fewestRounds() {
        FoodShares x = Check.withTables(2);
        x.load(0, 1);
        x.load(1, 1);
        x.road(12, 0, 3);
        x.road(12, 1, 4);
        x.road(0, 1, 7);
        check.due("one round, of as many minutes as two", x.rounds(2), 14);
        row(x, 0, 1);
        x.road(0, 1, 8);
        check.due("two rounds, of fewer minutes", x.rounds(2), 14);
        row(x, 0, 12, 1);
    }

    private static void firstRow() {
        FoodShares x = Check.withTables(4);
        for (int i = 0; i < 4; i++) {
            x.load(i, 1);
        }
        check.due("rounds(3)", x.rounds(3), 0);
        row(x, 0, 1, 2, 12, 3);
        check.due("rounds(2)", x.rounds(2), 0);
        row(x, 0, 1, 12, 2, 3);
        x.road(12, 0, 5);
        x.road(12, 1, 1);
        check.due("a round need not begin with its lowest", x.rounds(3), 1);
        row(x, 1, 0, 2, 12, 3);
    }

    private static void againstEveryRow() {
        Random random = new Random(8);
        int[] widths = {1, 2, 3, 8, 30, 601};
        for (int turn = 0; turn < 1500; turn++) {
            int most = turn % 100 == 0 ? 8 : 1 + random.nextInt(6);
            FoodShares x = Check.withTables(12);
            int[][] minutes = new int[13][13];
            int width = widths[random.nextInt(widths.length)];
            for (int a = 0; a < 13; a++) {
                for (int b = 0; b < a; b++) {
                    minutes[a][b] = random.nextInt(width);
                    minutes[b][a] = minutes[a][b];
                    x.road(a, b, minutes[a][b]);
                }
            }
            int[] loads = new int[12];
            int cap = 1 + random.nextInt(20);
            for (int i = 0; i < most; i++) {
                int table = random.nextInt(12);
                loads[table] = 1 + random.nextInt(Math.min(cap, 9));
                x.load(table, loads[table]);
            }
            PlainRounds plain = new PlainRounds(minutes, loads, cap);
            check.due("turn " + turn + ": rounds(" + cap + ")", x.rounds(cap), plain.minutes());
            List<Integer> due = plain.row();
            int[] stops = new int[due.size()];
            for (int i = 0; i < stops.length; i++) {
                stops[i] = due.get(i);
            }
            row(x, stops);
        }
    }
}

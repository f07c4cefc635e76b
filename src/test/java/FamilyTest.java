/** Promises 5 to 9: table, family, refer, allowed, need. */
public final class FamilyTest {
    private static final Check check = new Check("FamilyTest");

    public static void main(String[] args) {
        table();
        family();
        familiesToTheLimit();
        refer();
        referralsToTheLimit();
        allowed();
        need();
        check.end();
    }

    private static void table() {
        FoodShares x = new FoodShares();
        for (int i = 0; i < 12; i++) {
            check.due("table()", x.table(), i);
        }
        check.due("the 13th table()", x.table(), -5);
        check.due("status()", x.status(), -5);
        check.due("count(2)", x.count(2), 12);
    }

    private static void family() {
        FoodShares x = Check.withTables(2);
        check.due("family(0, 1, 0)", x.family(0, 1, 0), 0);
        check.due("family(1, 12, 255)", x.family(1, 12, 255), 1);
        int[][] wrong = {{0, 0, 0}, {0, 13, 0}, {0, 1, -1}, {0, 1, 256}, {5, 0, 0}, {-1, 1, 256}};
        for (int[] w : wrong) {
            check.due("a wrong family", x.family(w[0], w[1], w[2]), -1);
            check.due("its status()", x.status(), -1);
        }
        check.due("family(2, 1, 0)", x.family(2, 1, 0), -2);
        check.due("family(-1, 1, 0)", x.family(-1, 1, 0), -2);
        check.due("family(12, 1, 0)", x.family(12, 1, 0), -2);
        check.due("count(3)", x.count(3), 2);
    }

    private static void familiesToTheLimit() {
        FoodShares x = Check.withTables(1);
        for (int i = 0; i < 40; i++) {
            check.due("family " + i, x.family(0, 1 + i % 12, i), i);
        }
        check.due("the 41st", x.family(0, 1, 0), -5);
        check.due("the 41st with no table", x.family(1, 1, 0), -2);
        check.due("the 41st with wrong heads", x.family(1, 0, 0), -1);
        check.due("count(3)", x.count(3), 40);
    }

    private static void refer() {
        FoodShares x = Check.withTables(1);
        x.family(0, 1, 0);
        check.due("refer(0, 0, 0, 1)", x.refer(0, 0, 0, 1), 1);
        check.due("refer(0, 1000, 1000, 20)", x.refer(0, 1000, 1000, 20), 2);
        int[][] wrong = {{0, -1, 5, 1}, {0, 0, 1001, 1}, {0, 1001, 1001, 1}, {0, 5, 4, 1}, {0, 5, -1, 1},
            {0, 5, 5, 0}, {0, 5, 5, 21}, {9, 5, 5, 21}};
        for (int[] w : wrong) {
            check.due("a wrong refer", x.refer(w[0], w[1], w[2], w[3]), -1);
            check.due("its status()", x.status(), -1);
        }
        check.due("refer(1, 5, 5, 1)", x.refer(1, 5, 5, 1), -2);
        check.due("refer(-1, 5, 5, 1)", x.refer(-1, 5, 5, 1), -2);
        x.go(9);
        check.due("one that has lapsed", x.refer(0, 1, 2, 1), 3);
        check.due("count(4)", x.count(4), 3);
    }

    private static void referralsToTheLimit() {
        FoodShares x = Check.withTables(1);
        x.family(0, 1, 0);
        for (int i = 1; i <= 100; i++) {
            check.due("refer " + i, x.refer(0, 0, 9, 20), i);
        }
        check.due("the 101st", x.refer(0, 0, 9, 20), -5);
        check.due("the 101st of no family", x.refer(1, 0, 9, 20), -2);
        check.due("allowed(0, 9)", x.allowed(0, 9), 2000);
    }

    private static void allowed() {
        FoodShares x = Check.withTables(1);
        x.family(0, 1, 0);
        x.family(0, 1, 0);
        x.refer(0, 2, 5, 3);
        x.refer(0, 5, 9, 4);
        x.refer(1, 0, 1000, 1);
        int[][] due = {{0, 0}, {1, 0}, {2, 3}, {4, 3}, {5, 7}, {6, 4}, {9, 4}, {10, 0}, {1000, 0}};
        for (int[] d : due) {
            check.due("allowed(0, " + d[0] + ")", x.allowed(0, d[0]), d[1]);
        }
        check.due("allowed(1, 0)", x.allowed(1, 0), 1);
        check.due("allowed(1, 1000)", x.allowed(1, 1000), 1);
        check.due("allowed(0, -1)", x.allowed(0, -1), -1);
        check.due("allowed(0, 1001)", x.allowed(0, 1001), -1);
        check.due("allowed(2, 0)", x.allowed(2, 0), -1);
        check.due("allowed(-1, 0)", x.allowed(-1, 0), -1);
    }

    private static void need() {
        FoodShares x = Check.withTables(1);
        x.contents(3, 4);
        x.family(0, 3, 4);
        x.family(0, 4, 0);
        check.due("without rules: need(0, 3)", x.need(0, 3), 0);
        check.due("rules", Check.rules(x, "need 3 100;need 3 10 above 3;need 3 1 above 0;need 4 7;spare 4 9"), 5);
        check.due("need(0, 3), barred, not above", x.need(0, 3), 303);
        check.due("need(1, 3), above", x.need(1, 3), 444);
        check.due("need(1, 4)", x.need(1, 4), 28);
        check.due("need(1, 5)", x.need(1, 5), 0);
        check.due("need(1, 10)", x.need(1, 10), -1);
        check.due("need(1, -1)", x.need(1, -1), -1);
        check.due("need(2, 0)", x.need(2, 0), -1);
        check.due("need(-1, 0)", x.need(-1, 0), -1);
        FoodShares y = Check.withTables(1);
        y.family(0, 12, 0);
        StringBuilder most = new StringBuilder("need0 100000");
        for (int i = 1; i < 30; i++) {
            most.append(";need0 100000");
        }
        check.due("thirty rules", Check.rules(y, most.toString()), 30);
        check.due("the greatest need", y.need(0, 0), 36000000);
    }
}

/** Promises 13 to 15: want, part, got. */
public final class PartTest {
    private static final Check check = new Check("PartTest");

    public static void main(String[] args) {
        want();
        refusals();
        allWants();
        level();
        greatest();
        sparedAndOrder();
        got();
        check.end();
    }

    private static void want() {
        FoodShares x = Check.withTables(2);
        check.due("want(0, 0, 5)", x.want(0, 0, 5), 0);
        check.due("want(0, 0, 1000000)", x.want(0, 0, 1000000), 5);
        check.due("want(0, 0, 0)", x.want(0, 0, 0), 1000000);
        check.due("want(0, 9, 1)", x.want(0, 9, 1), 0);
        check.due("want(1, 0, 1)", x.want(1, 0, 1), 0);
        int[][] wrong = {{0, -1, 1}, {0, 10, 1}, {0, 0, -1}, {0, 0, 1000001}, {7, 10, 1}};
        for (int[] w : wrong) {
            check.due("a wrong want", x.want(w[0], w[1], w[2]), -1);
            check.due("its status()", x.status(), -1);
        }
        check.due("want(2, 0, 1)", x.want(2, 0, 1), -2);
        check.due("want(-1, 0, 1)", x.want(-1, 0, 1), -2);
        check.due("want(1, 0, 1)", x.want(1, 0, 1), 1);
    }

    private static void refusals() {
        FoodShares x = Check.withTables(1);
        check.due("part(-1)", x.part(-1), -1);
        check.due("part(10)", x.part(10), -1);
        check.due("neither wants nor lots", x.part(0), -4);
        x.want(0, 0, 5);
        check.due("no lots", x.part(0), -4);
        check.due("status()", x.status(), -4);
        check.due("the want stays", x.want(0, 0, 5), 5);
        x.gift(0, 5, 2, 0);
        Check.rules(x, "spare 0 3");
        check.due("nothing that may go", x.part(0), -4);
        check.due("want stays", x.want(0, 0, 0), 5);
        Check.rules(x, " ");
        check.due("no wants", x.part(0), -4);
        x.want(0, 0, 5);
        check.due("part(0)", x.part(0), 5);
        check.due("status()", x.status(), 0);
        check.due("nothing left", x.part(0), -4);
    }

    private static void allWants() {
        FoodShares x = Check.withTables(3);
        x.gift(2, 60, 9, 0);
        x.want(0, 2, 10);
        x.want(1, 2, 20);
        x.want(2, 2, 30);
        check.due("just enough", x.part(2), 60);
        check.due("want(0, 2, 1)", x.want(0, 2, 1), 0);
        check.due("want(1, 2, 1)", x.want(1, 2, 1), 0);
        check.due("want(2, 2, 1)", x.want(2, 2, 1), 0);
        check.due("got(2, 2)", x.got(2, 2), 30);
        x.gift(2, 60, 9, 0);
        check.due("more than enough", x.part(2), 3);
        check.due("count(22)", x.count(22), 57);
        check.due("count(11)", x.count(11), 63);
    }

    private static void parted(int grams, int[] wants, int[] due) {
        FoodShares x = Check.withTables(wants.length);
        x.gift(0, grams, 9, 0);
        int sum = 0;
        for (int i = 0; i < wants.length; i++) {
            x.want(i, 0, wants[i]);
            sum += due[i];
        }
        check.due("part(0)", x.part(0), sum);
        for (int i = 0; i < wants.length; i++) {
            check.due("got(" + i + ", 0) of " + grams, x.got(i, 0), due[i]);
            check.due("want left of " + i, x.want(i, 0, 0), wants[i] - due[i]);
        }
        check.due("lot(0, 6)", x.lot(0, 6), sum);
        check.due("lot(0, 4)", x.lot(0, 4), grams - sum);
    }

    private static void level() {
        parted(1, new int[] {0, 5, 5}, new int[] {0, 1, 0});
        parted(2, new int[] {5, 5, 5}, new int[] {1, 1, 0});
        parted(11, new int[] {2, 9, 1, 9}, new int[] {2, 4, 1, 4});
        parted(12, new int[] {2, 9, 1, 9}, new int[] {2, 5, 1, 4});
        parted(14, new int[] {9, 2, 9, 9}, new int[] {4, 2, 4, 4});
        parted(20, new int[] {3, 20, 3}, new int[] {3, 14, 3});
        parted(9, new int[] {3, 3, 4}, new int[] {3, 3, 3});
        parted(10, new int[] {3, 3, 4}, new int[] {3, 3, 4});
        parted(11, new int[] {3, 3, 4}, new int[] {3, 3, 4});
    }

    private static void greatest() {
        parted(1000000, new int[] {1000000, 1000000, 1000000}, new int[] {333334, 333333, 333333});
        parted(1000000, new int[] {1000000, 1}, new int[] {999999, 1});
        parted(1000000, new int[] {1000000}, new int[] {1000000});
        FoodShares x = Check.withTables(12);
        for (int i = 0; i < 12; i++) {
            x.gift(0, 1000000, 9, 0);
            x.want(i, 0, 1000000);
        }
        check.due("twelve tables get all", x.part(0), 12000000);
        check.due("got(11, 0)", x.got(11, 0), 1000000);
    }

    private static void sparedAndOrder() {
        FoodShares x = Check.withTables(2);
        Check.rules(x, "spare 0 2");
        x.gift(0, 10, 8, 0);
        x.gift(0, 10, 2, 0);
        x.gift(0, 10, 1, 0);
        x.gift(1, 10, 9, 0);
        x.gift(0, 10, 8, 0);
        x.gift(0, 10, 7, 0);
        x.want(0, 0, 20);
        x.want(1, 0, 12);
        check.due("part(0)", x.part(0), 32);
        int[] due = {10, 10, 0, 0, 2, 10};
        for (int i = 0; i < due.length; i++) {
            check.due("lot(" + i + ", 6)", x.lot(i, 6), due[i]);
        }
    }

    private static void got() {
        FoodShares x = Check.withTables(2);
        x.gift(0, 100, 9, 0);
        x.want(1, 0, 4);
        x.part(0);
        x.want(1, 0, 5);
        x.part(0);
        check.due("got(1, 0)", x.got(1, 0), 9);
        check.due("got(0, 0)", x.got(0, 0), 0);
        check.due("got(1, 1)", x.got(1, 1), 0);
        check.due("got(2, 0)", x.got(2, 0), -1);
        check.due("got(-1, 0)", x.got(-1, 0), -1);
        check.due("got(0, 10)", x.got(0, 10), -1);
        check.due("got(0, -1)", x.got(0, -1), -1);
    }
}

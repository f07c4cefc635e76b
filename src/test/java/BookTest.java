/** Promises 24 and 25: weigh, given. */
public final class BookTest {
    private static final Check check = new Check("BookTest");

    public static void main(String[] args) {
        weigh();
        weighingsToTheLimit();
        given();
        check.end();
    }

    private static void weigh() {
        FoodShares x = new FoodShares();
        x.gift(0, 10, 9, 0);
        check.due("weigh(0, 0, 0)", x.weigh(0, 0, 0), 1);
        check.due("weigh(0, 1000000, 100000)", x.weigh(0, 1000000, 100000), 2);
        int[][] wrong = {{0, -1, 0}, {0, 1000001, 0}, {0, 1, -1}, {0, 1, 100001}, {5, -1, 0}};
        for (int[] w : wrong) {
            check.due("a wrong weigh", x.weigh(w[0], w[1], w[2]), -1);
            check.due("its status()", x.status(), -1);
        }
        check.due("weigh(1, 1, 1)", x.weigh(1, 1, 1), -2);
        check.due("weigh(-1, 1, 1)", x.weigh(-1, 1, 1), -2);
        check.due("count(7)", x.count(7), 2);
        check.due("what is left stays", x.lot(0, 4), 10);
        check.due("what was told stays", x.lot(0, 1), 10);
        check.due("count(8)", x.count(8), 10);
    }

    private static void weighingsToTheLimit() {
        FoodShares x = new FoodShares();
        x.gift(0, 10, 9, 0);
        for (int i = 1; i <= 100; i++) {
            check.due("weigh " + i, x.weigh(0, i, i), i);
        }
        check.due("the 101st", x.weigh(0, 1, 1), -5);
        check.due("the 101st of no lot", x.weigh(1, 1, 1), -2);
        check.due("the 101st, wrong", x.weigh(1, -1, 1), -1);
        check.due("given(0, 50)", x.given(0, 50), 50);
    }

    private static void given() {
        FoodShares x = new FoodShares();
        x.gift(0, 10, 9, 3);
        x.gift(1, 20, 9, 3);
        x.gift(1, 40, 9, 19);
        check.due("given(3, 0)", x.given(3, 0), 30);
        x.weigh(0, 15, 5);
        x.weigh(0, 12, 2);
        x.weigh(1, 0, 7);
        x.weigh(2, 1000000, 100000);
        check.due("given(3, 1)", x.given(3, 1), 30);
        check.due("given(3, 2)", x.given(3, 2), 32);
        check.due("the one told last, not the one known last", x.given(3, 6), 32);
        check.due("given(3, 7)", x.given(3, 7), 12);
        check.due("given(19, 99999)", x.given(19, 99999), 40);
        check.due("given(19, 100000)", x.given(19, 100000), 1000000);
        check.due("given(4, 9)", x.given(4, 9), 0);
        check.due("given(20, 0)", x.given(20, 0), -1);
        check.due("given(-1, 0)", x.given(-1, 0), -1);
        check.due("given(3, -1)", x.given(3, -1), -1);
        check.due("given(3, 100001)", x.given(3, 100001), -1);
        x.go(60);
        check.due("spoilt, but given all the same", x.given(3, 0), 30);
    }
}

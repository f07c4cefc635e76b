/** Promises 1 to 4, 12 and 27: a new object, contents, gift, lot, go, count. */
public final class GiftTest {
    private static final Check check = new Check("GiftTest");

    public static void main(String[] args) {
        newObject();
        contents();
        gift();
        giftsToTheLimit();
        lot();
        go();
        spoilt();
        counts();
        check.end();
    }

    private static void newObject() {
        FoodShares x = new FoodShares();
        check.due("NONE", FoodShares.NONE, -1);
        for (int what = 0; what <= 14; what++) {
            check.due("new: count(" + what + ")", x.count(what), 0);
        }
        for (int kind = 0; kind <= 9; kind++) {
            check.due("new: count(20 + " + kind + ")", x.count(20 + kind), 0);
        }
        check.due("new: status()", x.status(), 0);
        check.due("new: fault()", x.fault(), -1);
        check.due("new: stop(-1)", x.stop(-1), -1);
        check.due("new: stop(0)", x.stop(0), -1);
        check.due("new: lot(0, 0)", x.lot(0, 0), -1);
        check.due("new: of(0, 0)", x.of(0, 0), -1);
        check.due("new: got(0, 0)", x.got(0, 0), -1);
        check.due("new: allowed(0, 0)", x.allowed(0, 0), -1);
        check.due("new: need(0, 0)", x.need(0, 0), -1);
        check.due("new: given(0, 0)", x.given(0, 0), 0);
        check.due("new: led(0, 0)", x.led(0, 0), -1);
        check.due("new: parcel(0)", x.parcel(0), -2);
        check.due("new: rules()", x.rules(), 0);
    }

    private static void contents() {
        FoodShares x = new FoodShares();
        check.due("contents(0, 0)", x.contents(0, 0), 0);
        check.due("contents(9, 255)", x.contents(9, 255), 0);
        int[][] wrong = {{-1, 0}, {10, 0}, {0, -1}, {0, 256}, {Integer.MIN_VALUE, Integer.MAX_VALUE}};
        for (int[] w : wrong) {
            check.due("contents(" + w[0] + ", " + w[1] + ")", x.contents(w[0], w[1]), -1);
            check.due("status()", x.status(), -1);
        }
    }

    private static void gift() {
        FoodShares x = new FoodShares();
        check.due("gift(0, 1, 0, 0)", x.gift(0, 1, 0, 0), 0);
        check.due("gift(9, 1000000, 1000, 19)", x.gift(9, 1000000, 1000, 19), 1);
        int[][] wrong = {{-1, 1, 5, 0}, {10, 1, 5, 0}, {0, 0, 5, 0}, {0, 1000001, 5, 0}, {0, -5, 5, 0},
            {0, 1, -1, 0}, {0, 1, 1001, 0}, {0, 1, 5, -1}, {0, 1, 5, 20}};
        for (int[] w : wrong) {
            check.due("a wrong gift", x.gift(w[0], w[1], w[2], w[3]), -1);
            check.due("its status()", x.status(), -1);
        }
        check.due("count(1)", x.count(1), 2);
        x.go(3);
        check.due("gift whose last day is behind", x.gift(0, 1, 2, 0), -1);
        check.due("gift whose last day is today", x.gift(0, 1, 3, 0), 2);
    }

    private static void giftsToTheLimit() {
        FoodShares x = new FoodShares();
        for (int i = 0; i < 200; i++) {
            check.due("gift " + i, x.gift(i % 10, 5, 9, i % 20), i);
        }
        check.due("the 201st", x.gift(0, 5, 9, 0), -5);
        check.due("status()", x.status(), -5);
        check.due("the 201st, with a wrong number", x.gift(10, 5, 9, 0), -1);
        check.due("count(1)", x.count(1), 200);
        check.due("lot(199, 3)", x.lot(199, 3), 19);
        check.due("lot(200, 3)", x.lot(200, 3), -1);
    }

    private static void lot() {
        FoodShares x = new FoodShares();
        x.gift(4, 70, 8, 6);
        long[] due = {4, 70, 8, 6, 70, 0, 0, 0};
        for (int what = 0; what < due.length; what++) {
            check.due("lot(0, " + what + ")", x.lot(0, what), due[what]);
        }
        check.due("lot(0, 8)", x.lot(0, 8), -1);
        check.due("lot(0, -1)", x.lot(0, -1), -1);
        check.due("lot(1, 0)", x.lot(1, 0), -1);
        check.due("lot(-1, 0)", x.lot(-1, 0), -1);
    }

    private static void go() {
        FoodShares x = new FoodShares();
        check.due("go(0)", x.go(0), -1);
        check.due("go(-1)", x.go(-1), -1);
        check.due("go(61)", x.go(61), -1);
        check.due("go(max)", x.go(Integer.MAX_VALUE), -1);
        check.due("count(0)", x.count(0), 0);
        for (int day = 60; day <= 480; day += 60) {
            check.due("go(60)", x.go(60), day);
        }
        check.due("go(21) to 501", x.go(21), -1);
        check.due("status()", x.status(), -1);
        check.due("go(20) to 500", x.go(20), 500);
        check.due("go(1) to 501", x.go(1), -1);
        check.due("count(0)", x.count(0), 500);
    }

    private static void spoilt() {
        FoodShares x = new FoodShares();
        x.gift(0, 10, 4, 0);
        x.gift(0, 20, 5, 0);
        x.gift(1, 40, 6, 0);
        x.go(4);
        check.due("on its last day: lot(0, 4)", x.lot(0, 4), 10);
        x.go(2);
        check.due("lot(0, 4)", x.lot(0, 4), 0);
        check.due("lot(0, 7)", x.lot(0, 7), 10);
        check.due("lot(1, 7)", x.lot(1, 7), 20);
        check.due("lot(2, 7)", x.lot(2, 7), 0);
        check.due("lot(2, 4)", x.lot(2, 4), 40);
        x.go(60);
        check.due("count(12)", x.count(12), 70);
        check.due("count(9)", x.count(9), 0);
        check.due("count(8)", x.count(8), 70);
        check.due("lot(0, 7) stays", x.lot(0, 7), 10);
    }

    private static void counts() {
        FoodShares x = Check.withTables(2);
        Check.rules(x, "need 0 30");
        x.gift(0, 100, 9, 0);
        x.gift(3, 50, 2, 1);
        x.family(1, 2, 0);
        x.refer(0, 0, 9, 2);
        x.parcel(0);
        x.parcel(0);
        x.want(0, 3, 20);
        x.part(3);
        x.go(3);
        x.weigh(0, 90, 3);
        Check.tape(x, "abc");
        long[] due = {3, 2, 2, 1, 1, 2, 1, 1, 150, 0, 100, 20, 30, 20, 3};
        for (int what = 0; what < due.length; what++) {
            check.due("count(" + what + ")", x.count(what), due[what]);
        }
        x.gift(3, 7, 3, 0);
        x.gift(3, 8, 4, 0);
        x.gift(9, 9, 4, 0);
        check.due("count(20)", x.count(20), 0);
        check.due("count(23)", x.count(23), 15);
        check.due("count(29)", x.count(29), 9);
        int[] others = {-1, 15, 16, 19, 30, 31, Integer.MIN_VALUE, Integer.MAX_VALUE};
        for (int what : others) {
            check.due("count(" + what + ")", x.count(what), -1);
        }
    }
}

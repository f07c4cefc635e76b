/** Promises 10, 11 and 26: parcel, of, led. */
public final class ParcelTest {
    private static final Check check = new Check("ParcelTest");

    public static void main(String[] args) {
        refusals();
        lotsInOrder();
        spared();
        swaps();
        swapsKeepTheirRules();
        severalLinesOfALot();
        referralThatCounts();
        manyLines();
        led();
        check.end();
    }

    private static FoodShares oneFamily(int heads, int bars, String rules) {
        FoodShares x = Check.withTables(1);
        x.family(0, heads, bars);
        Check.rules(x, rules);
        return x;
    }

    private static void lines(FoodShares x, int parcel, int[]... due) {
        check.due("of(" + parcel + ", 2)", x.of(parcel, 2), due.length);
        int sum = 0;
        for (int k = 0; k < due.length; k++) {
            check.due("lot of line " + k, x.of(parcel, 10 + k), due[k][0]);
            check.due("grams of line " + k, x.of(parcel, 400 + k), due[k][1]);
            sum += due[k][1];
        }
        check.due("of(" + parcel + ", 3)", x.of(parcel, 3), sum);
        check.due("no line more", x.of(parcel, 10 + due.length), -1);
        check.due("no grams more", x.of(parcel, 400 + due.length), -1);
    }

    private static void refusals() {
        FoodShares x = oneFamily(2, 0, "need 0 10");
        check.due("parcel(-1)", x.parcel(-1), -2);
        check.due("parcel(1)", x.parcel(1), -2);
        check.due("no referral, nothing there", x.parcel(0), -3);
        x.refer(0, 1, 1, 1);
        check.due("not yet", x.parcel(0), -3);
        x.go(1);
        check.due("nothing there", x.parcel(0), -4);
        check.due("status()", x.status(), -4);
        check.due("it does not count", x.allowed(0, 1), 1);
        check.due("nor is it short", x.count(13), 0);
        x.gift(0, 5, 1, 0);
        check.due("parcel(0)", x.parcel(0), 0);
        check.due("status()", x.status(), 0);
        check.due("used up", x.parcel(0), -3);
        check.due("of(0, 0)", x.of(0, 0), 0);
        check.due("of(0, 1)", x.of(0, 1), 1);
        check.due("of(0, 4)", x.of(0, 4), 15);
        int[] none = {-1, 5, 6, 9, 11, 399, 401, 1000, Integer.MAX_VALUE, Integer.MIN_VALUE};
        for (int what : none) {
            check.due("of(0, " + what + ")", x.of(0, what), -1);
        }
        check.due("of(1, 0)", x.of(1, 0), -1);
        check.due("of(-1, 0)", x.of(-1, 0), -1);
        x.refer(0, 0, 1, 1);
        x.gift(0, 5, 9, 0);
        x.go(1);
        check.due("lapsed", x.parcel(0), -3);
        FoodShares y = oneFamily(2, 0, " ");
        y.refer(0, 0, 9, 1);
        y.gift(0, 5, 9, 0);
        check.due("no need", y.parcel(0), -4);
    }

    private static void lotsInOrder() {
        FoodShares x = oneFamily(1, 0, "need 1 6; need 0 100");
        x.refer(0, 0, 9, 3);
        x.gift(0, 10, 7, 0);
        x.gift(0, 20, 5, 0);
        x.gift(1, 30, 9, 0);
        x.gift(0, 40, 7, 0);
        x.gift(0, 50, 6, 0);
        check.due("parcel(0)", x.parcel(0), 0);
        lines(x, 0, new int[] {1, 20}, new int[] {4, 50}, new int[] {0, 10}, new int[] {3, 20}, new int[] {2, 6});
        check.due("lot(3, 4)", x.lot(3, 4), 20);
        check.due("lot(3, 5)", x.lot(3, 5), 20);
        check.due("parcel(0)", x.parcel(0), 1);
        lines(x, 1, new int[] {3, 20}, new int[] {2, 6});
        check.due("of(1, 4)", x.of(1, 4), 80);
        check.due("count(13)", x.count(13), 80);
        check.due("count(10)", x.count(10), 132);
    }

    private static void spared() {
        FoodShares x = oneFamily(1, 0, "need 0 10; spare 0 3; spare 0 2; spare 1 9");
        x.refer(0, 0, 90, 5);
        x.gift(0, 4, 2, 0);
        x.gift(0, 4, 3, 0);
        check.due("parcel(0)", x.parcel(0), 0);
        lines(x, 0, new int[] {1, 4});
        x.gift(0, 4, 4, 0);
        x.go(2);
        check.due("ahead of today and three days more", x.parcel(0), -4);
        check.due("rules", Check.rules(x, "need 0 10"), 1);
        check.due("on its last day", x.parcel(0), 1);
        lines(x, 1, new int[] {0, 4}, new int[] {2, 4});
    }

    private static void swaps() {
        FoodShares x = oneFamily(1, 1, "need 0 50; swap 1 for 0; swap 2 for 0; swap 3 for 0; swap 0 for 3; spare 3 5");
        x.refer(0, 0, 9, 9);
        x.contents(2, 1);
        x.gift(0, 10, 9, 0);
        x.gift(1, 10, 9, 0);
        x.gift(2, 10, 9, 0);
        x.gift(3, 10, 4, 0);
        x.gift(3, 10, 5, 0);
        check.due("parcel(0)", x.parcel(0), 0);
        lines(x, 0, new int[] {0, 10}, new int[] {1, 10}, new int[] {4, 10});
        check.due("of(0, 4)", x.of(0, 4), 20);
        x.contents(0, 3);
        x.gift(0, 100, 9, 0);
        x.gift(1, 49, 9, 0);
        x.gift(3, 10, 9, 0);
        check.due("all of a barred kind is swapped", x.parcel(0), 1);
        lines(x, 1, new int[] {6, 49}, new int[] {7, 1});
        check.due("of(1, 4)", x.of(1, 4), 0);
    }

    private static void swapsKeepTheirRules() {
        FoodShares x = oneFamily(1, 0, "swap 2 for 1; need 1 50; need 2 10");
        x.refer(0, 0, 9, 9);
        x.gift(2, 30, 9, 0);
        x.gift(3, 30, 9, 0);
        check.due("a swap takes ahead of the later kind's need", x.parcel(0), 0);
        lines(x, 0, new int[] {0, 30});
        check.due("of(0, 4)", x.of(0, 4), 30);
        Check.rules(x, "need 1 5; swap 2 for 1; swap 3 for 2");
        check.due("swaps are not swapped again", x.parcel(0), -4);
    }

    private static void severalLinesOfALot() {
        FoodShares x = oneFamily(2, 0, "need 0 5;need 1 7;need 2 1;swap 1 for 0");
        x.refer(0, 0, 9, 9);
        x.gift(1, 100, 9, 0);
        check.due("parcel(0)", x.parcel(0), 0);
        lines(x, 0, new int[] {0, 10}, new int[] {0, 14});
        check.due("of(0, 4)", x.of(0, 4), 2);
        check.due("lot(0, 5)", x.lot(0, 5), 24);
    }

    private static void referralThatCounts() {
        FoodShares x = oneFamily(1, 0, "need 0 1");
        x.family(0, 1, 0);
        x.gift(0, 100, 50, 0);
        x.refer(0, 0, 9, 2);
        x.refer(0, 0, 5, 1);
        x.refer(0, 0, 20, 1);
        x.refer(0, 2, 5, 1);
        x.refer(1, 0, 1, 9);
        x.parcel(0);
        check.due("the one with the earliest last day", x.allowed(0, 0), 3);
        check.due("allowed(0, 9)", x.allowed(0, 9), 3);
        x.go(2);
        x.parcel(0);
        check.due("allowed(0, 3)", x.allowed(0, 3), 3);
        check.due("allowed(0, 5)", x.allowed(0, 5), 3);
        x.parcel(0);
        check.due("allowed(0, 9)", x.allowed(0, 9), 2);
        x.go(8);
        check.due("allowed(0, 10)", x.allowed(0, 10), 1);
        check.due("parcel(0)", x.parcel(0), 3);
        check.due("parcel(0)", x.parcel(0), -3);
        check.due("allowed(1, 1)", x.allowed(1, 1), 9);
        FoodShares y = oneFamily(1, 0, "need 0 1");
        y.gift(0, 100, 50, 0);
        y.refer(0, 0, 9, 1);
        y.refer(0, 1, 9, 1);
        y.go(1);
        y.parcel(0);
        check.due("of like last days the one told first", y.allowed(0, 0), 0);
        check.due("allowed(0, 1)", y.allowed(0, 1), 1);
    }

    private static void manyLines() {
        FoodShares x = oneFamily(12, 0, "need 0 100000; need 1 100000");
        x.refer(0, 0, 9, 9);
        for (int i = 0; i < 200; i++) {
            x.gift(i % 2, 1 + i, 9, i % 20);
        }
        check.due("parcel(0)", x.parcel(0), 0);
        check.due("of(0, 2)", x.of(0, 2), 200);
        check.due("of(0, 3)", x.of(0, 3), 20100);
        check.due("of(0, 10 + 100)", x.of(0, 110), 1);
        check.due("of(0, 10 + 199)", x.of(0, 209), 199);
        check.due("of(0, 210)", x.of(0, 210), -1);
        check.due("of(0, 399)", x.of(0, 399), -1);
        check.due("of(0, 400)", x.of(0, 400), 1);
        check.due("of(0, 599)", x.of(0, 599), 200);
        check.due("of(0, 600)", x.of(0, 600), -1);
    }

    private static void led() {
        FoodShares x = oneFamily(1, 0, "need 0 10;need 1 10");
        x.family(0, 2, 0);
        x.refer(0, 0, 9, 9);
        x.refer(1, 0, 9, 9);
        x.gift(0, 15, 9, 3);
        x.gift(1, 100, 9, 3);
        x.gift(0, 100, 9, 19);
        x.parcel(0);
        x.parcel(1);
        x.parcel(0);
        check.due("led(3, 0)", x.led(3, 0), 30);
        check.due("led(19, 0)", x.led(19, 0), 10);
        check.due("led(3, 1)", x.led(3, 1), 25);
        check.due("led(19, 1)", x.led(19, 1), 15);
        check.due("led(0, 1)", x.led(0, 1), 0);
        x.want(0, 0, 10);
        x.part(0);
        x.weigh(0, 1, 0);
        check.due("neither parts nor weighings are led", x.led(3, 0), 30);
        check.due("led(20, 0)", x.led(20, 0), -1);
        check.due("led(-1, 0)", x.led(-1, 0), -1);
        check.due("led(0, 2)", x.led(0, 2), -1);
        check.due("led(0, -1)", x.led(0, -1), -1);
    }
}

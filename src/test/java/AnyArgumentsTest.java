import java.util.Random;

/** No call throws or fails to end, for any arguments in any state, also behind the 512th call. */
public final class AnyArgumentsTest {
    private static final int RUNS = 40;
    private static final int CALLS = 6000;
    private static final int[] ODD = {Integer.MIN_VALUE, Integer.MIN_VALUE + 1, -1000000, -13, -2, -1, 0, 1, 2, 3, 5, 7,
        9, 10, 12, 13, 20, 60, 100, 200, 255, 256, 400, 500, 600, 1000, 1001, 100000, 1000000, 10000000,
        Integer.MAX_VALUE - 10, Integer.MAX_VALUE - 1, Integer.MAX_VALUE};
    private static final Check check = new Check("AnyArgumentsTest");

    public static void main(String[] args) {
        for (int run = 0; run < RUNS; run++) {
            Random random = new Random(run);
            FoodShares x = full(run);
            for (int i = 0; i < CALLS; i++) {
                call(x, random, random.nextInt(27));
            }
            check.due("run " + run + ": grams told are those left, handed out, parted and spoilt", x.count(8),
                x.count(9) + x.count(10) + x.count(11) + x.count(12));
        }
        mostParcels();
        check.end();
    }

    private static FoodShares full(int run) {
        FoodShares x = Check.withTables(run % 13);
        Check.rules(x, "need 0 3;need 1 4 above 2;swap 2 for 0;swap 0 for 1;spare 2 1");
        for (int i = 0; i < run; i++) {
            x.gift(i % 10, 1000, 500, i % 20);
            x.family(0, 1 + i % 12, i % 3);
            x.refer(i, 0, 400, 20);
            x.load(i, 4);
        }
        return x;
    }

    private static int any(Random random) {
        int way = random.nextInt(10);
        if (way == 0) {
            return random.nextInt();
        }
        return way < 4 ? ODD[random.nextInt(ODD.length)] : random.nextInt(14);
    }

    private static void call(FoodShares x, Random random, int which) {
        int a = any(random);
        int b = any(random);
        int c = any(random);
        int d = any(random);
        switch (which) {
            case 0: x.contents(a, b); break;
            case 1: x.gift(a, b, c, d); break;
            case 2: x.lot(a, b); break;
            case 3: x.table(); break;
            case 4: x.family(a, b, c); break;
            case 5: x.refer(a, b, c, d); break;
            case 6: x.allowed(a, b); break;
            case 7: x.need(a, b); break;
            case 8: x.parcel(a); break;
            case 9: x.of(a, b); break;
            case 10: if (random.nextInt(20) == 0) x.go(a); break;
            case 11: x.want(a, b, c); break;
            case 12: x.part(a); break;
            case 13: x.got(a, b); break;
            case 14: x.road(a, b, c); break;
            case 15: x.load(a, b); break;
            case 16: x.rounds(a); break;
            case 17: x.stop(a); break;
            case 18: x.feed(a, b, c, d, random.nextInt()); break;
            case 19: x.end(a); break;
            case 20: if (random.nextInt(20) == 0) x.rules(); break;
            case 21: x.fault(); break;
            case 22: x.weigh(a, b, c); break;
            case 23: x.given(a, b); break;
            case 24: x.led(a, b); break;
            case 25: x.count(a); break;
            default: x.status();
        }
    }

    /** All that a hundred referrals can let: far more than 512 calls could have. */
    private static void mostParcels() {
        FoodShares x = Check.withTables(1);
        x.family(0, 12, 0);
        Check.rules(x, "need 0 1;need 1 1;need 2 1;need 3 1;need 4 1;need 5 1;need 6 1;need 7 1;need 8 1;need 9 1");
        for (int i = 0; i < 200; i++) {
            x.gift(i % 10, 1000000, 9, 0);
        }
        for (int i = 0; i < 100; i++) {
            x.refer(0, 0, 9, 20);
        }
        for (int i = 0; i < 2000; i++) {
            check.due("parcel(0)", x.parcel(0), i);
        }
        check.due("parcel(0)", x.parcel(0), -3);
        check.due("of(1999, 2)", x.of(1999, 2), 10);
        check.due("count(10)", x.count(10), 240000);
    }
}

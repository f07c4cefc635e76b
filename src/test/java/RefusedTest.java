import java.util.ArrayList;
import java.util.List;
import java.util.function.Consumer;
import java.util.function.ToLongFunction;

/** A call that is REFUSED, and one that only asks, leaves all as it was: beside a twin that never had that call. */
public final class RefusedTest {
    private static final Check check = new Check("RefusedTest");

    public static void main(String[] args) {
        numbersThatCanNotBe();
        noSuch();
        noneThatLets();
        nothing();
        noRoom();
        aTextThatCanNotBe();
        thoseThatOnlyAsk();
        check.end();
    }

    /** Something of all; today is day 1. */
    private static void scene(FoodShares x) {
        for (int i = 0; i < 3; i++) {
            x.table();
        }
        x.contents(0, 8);
        x.contents(1, 16);
        x.contents(2, 4);
        x.gift(0, 50, 9, 0);
        x.gift(1, 30, 5, 1);
        x.gift(2, 20, 9, 2);
        x.gift(3, 20, 0, 2);
        x.family(0, 2, 4);
        x.family(1, 3, 0);
        x.family(1, 1, 255);
        Check.rules(x, "need 0 5;need 1 4;need 2 3;swap 1 for 2;spare 1 1");
        x.refer(0, 0, 9, 3);
        x.refer(0, 0, 5, 2);
        x.refer(1, 0, 0, 1);
        x.refer(2, 0, 9, 1);
        x.parcel(0);
        x.want(0, 0, 7);
        x.want(1, 0, 9);
        x.want(2, 5, 4);
        x.part(0);
        x.want(0, 0, 3);
        x.road(12, 0, 5);
        x.road(12, 1, 6);
        x.road(0, 1, 2);
        x.load(0, 4);
        x.load(1, 5);
        x.rounds(9);
        x.weigh(0, 49, 3);
        x.go(1);
        Check.tape(x, "need 0 9 x");
        x.rules();
        Check.tape(x, "need 1 9");
    }

    /** Everything that can be asked of the scene, and then what calls that change something answer. */
    private static List<Long> answers(FoodShares x) {
        List<Long> told = new ArrayList<>();
        for (int what = 0; what < 30; what++) {
            told.add(x.count(what));
        }
        for (int lot = 0; lot < 5; lot++) {
            for (int what = 0; what < 8; what++) {
                told.add((long) x.lot(lot, what));
            }
        }
        for (int i = 0; i < 4; i++) {
            for (int j = 0; j < 3; j++) {
                told.add((long) x.allowed(i, 3 * j));
                told.add((long) x.need(i, j));
                told.add((long) x.got(i, j));
                told.add(x.led(i, j));
                told.add(x.given(i, 3 * j));
            }
        }
        parcel(x, 0, told);
        row(x, told);
        told.add((long) x.fault());
        change(x, told);
        return told;
    }

    private static void change(FoodShares x, List<Long> told) {
        for (int table = 0; table < 3; table++) {
            told.add((long) x.want(table, 0, 6));
            told.add((long) x.want(table, 5, 6));
        }
        told.add((long) x.part(0));
        told.add((long) x.parcel(0));
        parcel(x, 1, told);
        told.add((long) x.rounds(9));
        row(x, told);
        told.add((long) x.rounds(5));
        row(x, told);
        told.add((long) x.rules());
        told.add((long) x.fault());
        told.add((long) x.need(0, 1));
        told.add((long) x.load(0, 0));
        told.add((long) x.parcel(2));
        told.add((long) x.go(1));
        told.add(x.count(12));
    }

    private static void parcel(FoodShares x, int parcel, List<Long> told) {
        int[] whats = {0, 1, 2, 3, 4, 10, 11, 12, 400, 401, 402};
        for (int what : whats) {
            told.add((long) x.of(parcel, what));
        }
    }

    private static void row(FoodShares x, List<Long> told) {
        for (int i = -1; i < 4; i++) {
            told.add((long) x.stop(i));
        }
    }

    private static void leaves(String call, Consumer<FoodShares> more, long due, ToLongFunction<FoodShares> how) {
        FoodShares one = new FoodShares();
        FoodShares twin = new FoodShares();
        scene(one);
        scene(twin);
        more.accept(one);
        more.accept(twin);
        check.due(call, how.applyAsLong(one), due);
        check.due(call + " leaves all as it was", answers(one).equals(answers(twin)));
    }

    private static void refused(String call, int code, ToLongFunction<FoodShares> how) {
        leaves(call, x -> { }, code, how);
        leaves("status() behind " + call, x -> { }, code, x -> {
            how.applyAsLong(x);
            return x.status();
        });
    }

    private static void numbersThatCanNotBe() {
        refused("contents(10, 1)", -1, x -> x.contents(10, 1));
        refused("contents(0, 256)", -1, x -> x.contents(0, 256));
        refused("contents(1, -1)", -1, x -> x.contents(1, -1));
        refused("gift(10, 5, 5, 0)", -1, x -> x.gift(10, 5, 5, 0));
        refused("gift(0, 0, 5, 0)", -1, x -> x.gift(0, 0, 5, 0));
        refused("gift(0, 5, 0, 0)", -1, x -> x.gift(0, 5, 0, 0));
        refused("gift(0, 5, 5, 20)", -1, x -> x.gift(0, 5, 5, 20));
        refused("family(0, 0, 0)", -1, x -> x.family(0, 0, 0));
        refused("family(0, 1, 256)", -1, x -> x.family(0, 1, 256));
        refused("refer(0, 5, 4, 1)", -1, x -> x.refer(0, 5, 4, 1));
        refused("refer(0, 0, 9, 21)", -1, x -> x.refer(0, 0, 9, 21));
        refused("go(0)", -1, x -> x.go(0));
        refused("go(61)", -1, x -> x.go(61));
        refused("want(0, 10, 1)", -1, x -> x.want(0, 10, 1));
        refused("want(0, 0, 1000001)", -1, x -> x.want(0, 0, 1000001));
        refused("part(10)", -1, x -> x.part(10));
        refused("road(12, 12, 1)", -1, x -> x.road(12, 12, 1));
        refused("road(12, 0, 601)", -1, x -> x.road(12, 0, 601));
        refused("load(0, -1)", -1, x -> x.load(0, -1));
        refused("rounds(0)", -1, x -> x.rounds(0));
        refused("weigh(0, -1, 0)", -1, x -> x.weigh(0, -1, 0));
        refused("weigh(0, 1, 100001)", -1, x -> x.weigh(0, 1, 100001));
    }

    private static void noSuch() {
        refused("family(3, 1, 0)", -2, x -> x.family(3, 1, 0));
        refused("refer(3, 0, 9, 1)", -2, x -> x.refer(3, 0, 9, 1));
        refused("parcel(3)", -2, x -> x.parcel(3));
        refused("want(3, 0, 1)", -2, x -> x.want(3, 0, 1));
        refused("load(3, 1)", -2, x -> x.load(3, 1));
        refused("weigh(4, 1, 1)", -2, x -> x.weigh(4, 1, 1));
    }

    private static void noneThatLets() {
        refused("parcel(1)", -3, x -> x.parcel(1));
    }

    private static void nothing() {
        refused("parcel(2)", -4, x -> x.parcel(2));
        refused("part(5) with WANTS alone", -4, x -> x.part(5));
        refused("part(1) with LOTS alone", -4, x -> x.part(1));
        leaves("rounds(9) without LOADS", x -> {
            x.load(0, 0);
            x.load(1, 0);
        }, -4, x -> x.rounds(9));
    }

    private static Consumer<FoodShares> times(int times, Consumer<FoodShares> call) {
        return x -> {
            for (int i = 0; i < times; i++) {
                call.accept(x);
            }
        };
    }

    private static void noRoom() {
        refused("rounds(4)", -5, x -> x.rounds(4));
        leaves("gift", times(196, x -> x.gift(0, 1, 9, 0)), -5, x -> x.gift(0, 1, 9, 0));
        leaves("table", times(9, FoodShares::table), -5, FoodShares::table);
        leaves("family", times(37, x -> x.family(0, 1, 0)), -5, x -> x.family(0, 1, 0));
        leaves("refer", times(96, x -> x.refer(0, 0, 9, 1)), -5, x -> x.refer(0, 0, 9, 1));
        leaves("weigh", times(99, x -> x.weigh(0, 1, 1)), -5, x -> x.weigh(0, 2, 0));
        leaves("load", x -> {
            for (int i = 3; i < 9; i++) {
                x.table();
                x.load(i, 1);
            }
        }, -5, x -> x.load(2, 1));
        leaves("feed", times(19, x -> x.feed(0, 0, 0, 0, 0)), -1, x -> x.feed(0, 0, 0, 0, 0));
    }

    /** The TAPE is empty then and FAULT is told, so both are brought to the twins alike. */
    private static void aTextThatCanNotBe() {
        FoodShares one = new FoodShares();
        FoodShares twin = new FoodShares();
        scene(one);
        scene(twin);
        one.end(4);
        check.due("rules() of 'need'", one.rules(), -6);
        check.due("fault()", one.fault(), 4);
        check.due("count(14)", one.count(14), 0);
        one.end(0);
        Check.tape(one, "need 0 9 x");
        one.rules();
        Check.tape(one, "need 1 9");
        check.due("rules that are REFUSED leave all as it was", answers(one).equals(answers(twin)));
    }

    private static void thoseThatOnlyAsk() {
        leaves("lot", x -> { }, 24, x -> x.lot(0, 4));
        leaves("lot of none", x -> { }, -1, x -> x.lot(4, 4));
        leaves("allowed", x -> { }, 4, x -> x.allowed(0, 1));
        leaves("allowed of none", x -> { }, -1, x -> x.allowed(0, 1001));
        leaves("need", x -> { }, 10, x -> x.need(0, 0));
        leaves("need of none", x -> { }, -1, x -> x.need(3, 0));
        leaves("of", x -> { }, 0, x -> x.of(0, 0));
        leaves("of none", x -> { }, -1, x -> x.of(1, 0));
        leaves("got of none", x -> { }, -1, x -> x.got(3, 0));
        leaves("stop of none", x -> { }, -1, x -> x.stop(2));
        leaves("end of too many", x -> { }, -1, x -> x.end(9));
        leaves("end below nothing", x -> { }, -1, x -> x.end(-1));
        leaves("fault", x -> { }, 9, FoodShares::fault);
        leaves("given of none", x -> { }, -1, x -> x.given(20, 0));
        leaves("led of none", x -> { }, -1, x -> x.led(0, 3));
        leaves("count of none", x -> { }, -1, x -> x.count(15));
        leaves("status", x -> { }, -6, FoodShares::status);
    }
}

/**
 * "REFUSED by: .. The first of these in that order", where two codes or more could be told; what status() tells
 * behind the calls; and all of it at once: an object that is full, up to its 512th call.
 */
public final class CodeOrderTest {
    private static final int MOST_CALLS = 512;
    private static final Check check = new Check("CodeOrderTest");

    public static void main(String[] args) {
        gift();
        family();
        refer();
        parcel();
        want();
        part();
        load();
        rounds();
        weigh();
        statusAheadOfAny();
        statusOfTheLatest();
        fullHouse();
        check.end();
    }

    private static Bank bank(String sentence) {
        return new Bank(check, "the first in that order: " + sentence);
    }

    private static void gift() {
        Bank b = bank("gift -1, -5").did("go", 5).did(200, "gift", 0, 1, 5, 0).due(-5, "gift", 0, 1, 5, 0);
        b.due(-1, "gift", 10, 1, 5, 0).due(-1, "gift", 0, 0, 5, 0).due(-1, "gift", 0, 1, 1001, 0);
        b.due(-1, "gift", 0, 1, 4, 0).due(-1, "gift", 0, 1, 5, 20);
    }

    private static void family() {
        bank("family -1, -2").due(-1, "family", 0, 0, 0).due(-1, "family", -1, 1, 256).due(-1, "family", 12, 13, -1);
        Bank b = bank("family -1, -2, -5").did("table").did(40, "family", 0, 1, 0).due(-5, "family", 0, 1, 0);
        b.due(-2, "family", 1, 1, 0).due(-2, "family", -1, 1, 0).due(-1, "family", 0, 13, 0).due(-1, "family", 0, 1, -1);
        b.due(-1, "family", 1, 0, 0);
    }

    private static void refer() {
        bank("refer -1, -2").due(-1, "refer", 0, 5, 4, 1).due(-1, "refer", 0, -1, 4, 1).due(-1, "refer", -1, 0, 1001, 1)
            .due(-1, "refer", 40, 0, 4, 0).due(-1, "refer", 40, 0, 4, 21);
        Bank b = bank("refer -1, -2, -5").did("table").did("family", 0, 1, 0).did(100, "refer", 0, 0, 9, 1);
        b.due(-5, "refer", 0, 0, 9, 1).due(-2, "refer", 1, 0, 9, 1).due(-2, "refer", -1, 0, 9, 1);
        b.due(-1, "refer", 0, 5, 4, 1).due(-1, "refer", 0, 0, 9, 21).due(-1, "refer", 1, 0, 1001, 1);
    }

    private static void parcel() {
        bank("parcel -2, -3, -4").due(-2, "parcel", 0).did("table").did("family", 0, 1, 0).due(-2, "parcel", 1)
            .due(-3, "parcel", 0).did("refer", 0, 0, 0, 1).due(-4, "parcel", 0).did("go", 1).due(-3, "parcel", 0);
    }

    private static void want() {
        bank("want -1, -2").due(-2, "want", 0, 0, 0).due(-1, "want", 0, 10, 0).due(-1, "want", 0, 0, -1)
            .due(-1, "want", -1, 0, 1000001);
    }

    private static void part() {
        bank("part -1, -4").due(-4, "part", 9).due(-1, "part", 10).due(-1, "part", -1);
    }

    private static void load() {
        bank("load -1, -2").due(-2, "load", 0, 0).due(-1, "load", 0, -1).due(-1, "load", 12, 1000001);
        Bank b = bank("load -1, -2, -5").did(9, "table");
        for (int i = 0; i < 8; i++) {
            b.did("load", i, 1);
        }
        b.due(-5, "load", 8, 1).due(-2, "load", 9, 1).due(-2, "load", -1, 1).due(-1, "load", 8, 1000001);
        b.due(-1, "load", 8, -1).due(-1, "load", 9, -1);
    }

    private static void rounds() {
        bank("rounds -1, -4").due(-4, "rounds", 1).due(-1, "rounds", 0).due(-1, "rounds", 10000001);
        bank("rounds -1, -5").did("table").did("load", 0, 2).due(-5, "rounds", 1).due(-1, "rounds", 0)
            .due(-1, "rounds", -1);
    }

    private static void weigh() {
        bank("weigh -1, -2").due(-2, "weigh", 0, 0, 0).due(-1, "weigh", 0, -1, 0).due(-1, "weigh", -1, 0, 100001);
        Bank b = bank("weigh -1, -2, -5").did("gift", 0, 1, 0, 0).did(100, "weigh", 0, 1, 0).due(-5, "weigh", 0, 1, 0);
        b.due(-2, "weigh", 1, 1, 0).due(-2, "weigh", -1, 1, 0).due(-1, "weigh", 0, 1000001, 0);
        b.due(-1, "weigh", 0, 1, -1).due(-1, "weigh", 1, 1, 100001);
    }

    private static void statusAheadOfAny() {
        Bank b = bank("status() is 0 ahead of any").dueStatus(0).dueStatus(0).did("feed", 0, 0, 0, 0, 0).dueStatus(0);
        b.did("end", 0).dueStatus(0).did("count", 0).did("given", 0, 0).dueStatus(0);
        FoodShares x = new FoodShares();
        long[] asked = {x.lot(0, 0), x.allowed(0, 0), x.need(0, 0), x.of(0, 0), x.got(0, 0), x.stop(0), x.end(1),
            x.fault(), x.given(20, 0), x.led(0, 0), x.count(15)};
        for (long answer : asked) {
            check.due("one that only asks", answer, FoodShares.NONE);
        }
        check.due("status() behind those that only ask", x.status(), 0);
    }

    private static void statusOfTheLatest() {
        Bank b = bank("each code in turn").due(-1, "go", 0).due(-2, "parcel", 0).did("table").did("family", 0, 1, 0);
        b.due(-3, "parcel", 0).due(-4, "rounds", 1).did(11, "table").due(-5, "table").did("feed", 0, 0, 0, 0, 0);
        b.due(-6, "rules").dueStatus(-6).dueStatus(-6).due(1, "go", 1).dueStatus(0);
        Bank c = bank("feed and end that are NONE leave it").due(-4, "part", 0).did(20, "feed", 0, 0, 0, 0, 0);
        c.dueStatus(-4).due(-1, "feed", 0, 0, 0, 0, 0).due(-1, "end", 401).due(0, "end", 0);
    }

    private static Bank fullBank() {
        Bank b = bank("all that can be full is full").did(12, "table").did(40, "family", 11, 12, 0);
        b.did(100, "refer", 39, 0, 1000, 20).did(200, "gift", 9, 1000000, 1000, 19).did(100, "weigh", 199, 0, 100000);
        for (int i = 4; i < 12; i++) {
            b.did("load", i, 1000000);
        }
        return b.rules("need9 100000");
    }

    private static void fullHouse() {
        Bank b = fullBank().due(-5, "table").due(-5, "family", 0, 1, 0).due(-5, "refer", 39, 0, 0, 1);
        b.due(-5, "gift", 0, 1, 1000, 0).due(-5, "weigh", 0, 0, 0).due(-5, "load", 0, 1).due(0, "parcel", 39);
        b.due(1200000, "of", 0, 3).due(199000000, "given", 19, 100000).due(1200000, "led", 19, 39);
        b.due(0, "rounds", 10000000).due(1999, "allowed", 39, 1000);
        while (b.calls() < MOST_CALLS - 2) {
            b.did("count", 1);
        }
        b.due(198800000, "count", 9);
        check.due("the last look was the last call", b.calls(), MOST_CALLS);
    }
}

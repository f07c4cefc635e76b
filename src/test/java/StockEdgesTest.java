/** Where Terms I and III and promises 1 to 4, 12 and 27 name a boundary: contents, LOTS, days, SPOILT, counts. */
public final class StockEdgesTest {
    private static final int MIN = Integer.MIN_VALUE;
    private static final int MAX = Integer.MAX_VALUE;
    private static final int[] NO_KINDS = {-1, 10, MIN, MAX};
    private static final int[] NO_GIVERS = {-1, 20, MIN, MAX};
    private static final Check check = new Check("StockEdgesTest");

    public static void main(String[] args) {
        newObject();
        contentsOfKinds();
        contentsBits();
        contentsAreNoneAtFirst();
        contentsThatAreRefusedChangeNothing();
        giftKinds();
        giftGrams();
        giftLastDays();
        giftLastDayAheadOfToday();
        giftGivers();
        lotsToTheLast();
        lotNumbers();
        lotWhat();
        daysAtOnce();
        todayToTheLast();
        daysThatAreRefusedChangeNothing();
        lastDayIsToday();
        lastDayIsBehind();
        onlyWhatIsLeftSpoils();
        spoiltMayNotGo();
        countWhat();
        countOfKinds();
        check.end();
    }

    private static Bank bank(String sentence) {
        return new Bank(check, sentence);
    }

    private static void newObject() {
        Bank b = bank("Day 0; nothing is there");
        b.dueStatus(0).did("count", 0).dueStatus(0);
        for (int what = 0; what <= 14; what++) {
            b.due(0, "count", what);
        }
        for (int kind = 0; kind <= 9; kind++) {
            b.due(0, "count", 20 + kind);
        }
        b.due(-1, "lot", 0, 0).due(-1, "allowed", 0, 0).due(-1, "need", 0, 0).due(-1, "of", 0, 0).due(-1, "got", 0, 0);
        b.due(-1, "stop", -1).due(-1, "stop", 0).due(-1, "end", 1).due(0, "end", 0).due(-1, "fault");
        b.due(0, "given", 0, 0).due(0, "given", 19, 100000).due(-1, "led", 0, 0);
        check.due("NONE", FoodShares.NONE, -1);
        bank("nothing is there to be refused for").due(-2, "family", 0, 1, 0).due(-2, "refer", 0, 0, 0, 1)
            .due(-2, "parcel", 0).due(-2, "want", 0, 0, 0).due(-4, "part", 0).due(-2, "load", 0, 0).due(-4, "rounds", 1)
            .due(-2, "weigh", 0, 0, 0).due(0, "rules");
    }

    private static void contentsOfKinds() {
        bank("KINDS 0 .. 9").due(0, "contents", 0, 1).due(0, "contents", 9, 1)
            .dueForEach(NO_KINDS, 0, -1, "contents", 0, 1);
    }

    private static void contentsBits() {
        bank("CONTENTS (bits 0 .. 255)").due(0, "contents", 4, 0).due(0, "contents", 4, 255)
            .dueForEach(new int[] {-1, 256, MIN, MAX}, 1, -1, "contents", 4, 0);
    }

    private static Bank withFamily(String sentence, int bars) {
        return bank(sentence).did("table").did("family", 0, 1, bars).did("refer", 0, 0, 1000, 20);
    }

    private static void contentsAreNoneAtFirst() {
        Bank b = withFamily("CONTENTS 0 at first", 255).rules("need 0 1; need 9 1");
        b.did("gift", 0, 5, 5, 0).did("gift", 9, 5, 5, 0).due(0, "parcel", 0).due(2, "of", 0, 2);
    }

    private static void contentsThatAreRefusedChangeNothing() {
        Bank b = withFamily("contents: -1", 6).rules("need 3 1").did("gift", 3, 5, 5, 0);
        b.due(0, "contents", 3, 1).due(-1, "contents", 3, 256 + 2).due(-1, "contents", 3, -1);
        b.due(0, "parcel", 0).due(0, "contents", 3, 4).due(-1, "contents", 3, 256).due(-4, "parcel", 0);
        b.due(0, "contents", 3, 0).due(1, "parcel", 0);
    }

    private static void giftKinds() {
        bank("a LOT: KINDS 0 .. 9").due(0, "gift", 0, 1, 5, 0).due(1, "gift", 9, 1, 5, 0)
            .dueForEach(NO_KINDS, 0, -1, "gift", 0, 1, 5, 0).due(2, "count", 1);
    }

    private static void giftGrams() {
        bank("a LOT: grams (1 .. 1,000,000)").due(0, "gift", 3, 1, 5, 0).due(1, "gift", 3, 1000000, 5, 0)
            .dueForEach(new int[] {0, -1, 1000001, MIN, MAX}, 1, -1, "gift", 3, 1, 5, 0)
            .due(2, "count", 1).due(1000001, "count", 8).due(1000001, "count", 23);
    }

    private static void giftLastDays() {
        bank("a LOT: the last day on which it may be eaten (0 .. 1000)")
            .due(0, "gift", 3, 1, 0, 0).due(1, "gift", 3, 1, 1000, 0)
            .dueForEach(new int[] {-1, 1001, MIN, MAX}, 2, -1, "gift", 3, 1, 5, 0)
            .due(0, "lot", 0, 2).due(1000, "lot", 1, 2).due(2, "count", 1);
    }

    private static void giftLastDayAheadOfToday() {
        Bank b = bank("one whose last day is ahead of TODAY: -1, too").due(1, "go", 1);
        b.due(-1, "gift", 3, 1, 0, 0).due(0, "gift", 3, 1, 1, 0).due(1, "gift", 3, 1, 2, 0);
        b.did(8, "go", 60).due(500, "go", 19);
        b.due(-1, "gift", 3, 1, 499, 0).due(2, "gift", 3, 1, 500, 0).due(3, "gift", 3, 1, 1000, 0);
        b.due(-1, "gift", 3, 1, 1001, 0).due(4, "count", 1);
    }

    private static void giftGivers() {
        bank("a LOT: a giver 0 .. 19").due(0, "gift", 3, 1, 5, 0).due(1, "gift", 3, 1, 5, 19)
            .dueForEach(NO_GIVERS, 3, -1, "gift", 3, 1, 5, 0).due(2, "count", 1);
    }

    private static void lotsToTheLast() {
        Bank b = bank("LOTS 0 .. 199 (200 at most)").did(199, "gift", 2, 1, 5, 0);
        b.due(199, "gift", 9, 7, 6, 5).due(-5, "gift", 9, 7, 6, 5).due(-5, "gift", 0, 1, 0, 0).due(200, "count", 1);
        b.due(206, "count", 8).due(7, "count", 29).due(9, "lot", 199, 0).due(-1, "lot", 200, 0);
        b.due(6, "go", 6).due(7, "go", 1).due(206, "count", 12).due(-5, "gift", 2, 1, 7, 0);
    }

    private static void lotNumbers() {
        Bank b = bank("lot: NONE without such a LOT").did("gift", 3, 1, 5, 0).did("gift", 4, 1, 5, 0);
        b.due(3, "lot", 0, 0).due(4, "lot", 1, 0).dueForEach(new int[] {-1, 2, 199, 200, MIN, MAX}, 0, -1, "lot", 0, 0);
    }

    private static void lotWhat() {
        Bank b = bank("lot: what 0 .. 7").did("gift", 3, 70, 5, 6);
        int[] told = {3, 70, 5, 6, 70, 0, 0, 0};
        for (int what = 0; what <= 7; what++) {
            b.due(told[what], "lot", 0, what);
        }
        b.dueForEach(new int[] {-1, 8, 9, MIN, MAX}, 1, -1, "lot", 0, 0);
    }

    private static void daysAtOnce() {
        bank("DAYS go by (1 .. 60)").due(1, "go", 1).due(61, "go", 60)
            .dueForEach(new int[] {0, -1, 61, -60, MIN, MAX, MAX - 60}, 0, -1, "go", 0).due(61, "count", 0);
    }

    private static void todayToTheLast() {
        bank("TODAY is 500 at most").did(7, "go", 60).did("go", 20).due(500, "go", 60).due(500, "count", 0);
        Bank b = bank("go: -1, also if it would be above 500").did(7, "go", 60).did("go", 21).due(-1, "go", 60);
        b.due(441, "count", 0).due(500, "go", 59).due(-1, "go", 1).due(-1, "go", 60).due(500, "count", 0);
        b.due(-1, "go", 0).due(-1, "go", MAX).due(500, "count", 0);
    }

    private static void daysThatAreRefusedChangeNothing() {
        Bank b = bank("go: -1, and no LOT spoils").did("gift", 0, 9, 0, 0).due(-1, "go", 61).due(-1, "go", 0);
        b.due(9, "lot", 0, 4).due(0, "lot", 0, 7).did(8, "go", 60).did("gift", 0, 8, 499, 0).due(-1, "go", 21);
        b.due(8, "lot", 1, 4).due(9, "count", 12).due(500, "go", 20).due(17, "count", 12);
    }

    private static void lastDayIsToday() {
        Bank b = bank("LOTS whose last day is TODAY are not SPOILT").did("gift", 0, 9, 0, 0).did("gift", 0, 9, 1, 0);
        b.due(9, "lot", 0, 4).due(0, "count", 12).due(1, "go", 1).due(9, "lot", 1, 4).due(0, "lot", 1, 7);
        b.did("gift", 0, 4, 500, 0).did("gift", 0, 2, 1000, 0).did(8, "go", 60).due(500, "go", 19);
        b.due(4, "lot", 2, 4).due(2, "lot", 3, 4).due(6, "count", 9).due(18, "count", 12);
    }

    private static void lastDayIsBehind() {
        Bank b = bank("LOTS whose last day is behind then are SPOILT").did("gift", 0, 9, 0, 0).did("gift", 1, 8, 1, 0);
        b.due(1, "go", 1).due(9, "lot", 0, 7).due(0, "lot", 0, 4).due(0, "count", 20).due(8, "count", 21);
        b.did("gift", 2, 7, 60, 0).did("gift", 2, 6, 61, 0).due(61, "go", 60);
        b.due(8, "lot", 1, 7).due(7, "lot", 2, 7).due(0, "lot", 3, 7).due(24, "count", 12).due(6, "count", 9);
        b.did("gift", 2, 5, 499, 0).did(7, "go", 60).due(500, "go", 19).due(5, "lot", 4, 7).due(35, "count", 12);
    }

    private static void onlyWhatIsLeftSpoils() {
        Bank b = withFamily("SPOILT (what is left of them)", 0).rules("need 0 3; need 1 4");
        b.did("gift", 0, 10, 0, 0).did("gift", 1, 4, 0, 0).did("want", 0, 0, 5).due(0, "parcel", 0).due(5, "part", 0);
        b.due(1, "go", 1).due(2, "lot", 0, 7).due(3, "lot", 0, 5).due(5, "lot", 0, 6).due(0, "lot", 0, 4);
        b.due(0, "lot", 1, 7).due(4, "lot", 1, 5).due(2, "count", 12).due(7, "count", 10).due(5, "count", 11);
        b.due(14, "count", 8).due(0, "count", 9).due(2, "go", 1).due(2, "lot", 0, 7).due(10, "lot", 0, 1);
    }

    private static void spoiltMayNotGo() {
        Bank b = withFamily("of what is SPOILT nothing is left to go", 0).rules("need 0 3").did("want", 0, 0, 5);
        b.did("gift", 0, 10, 0, 0).did("go", 1).due(-4, "parcel", 0).due(-4, "part", 0).due(10, "lot", 0, 7);
    }

    private static void countWhat() {
        Bank b = bank("count: NONE for others").due(0, "count", 0).due(0, "count", 14).due(0, "count", 20);
        b.due(0, "count", 29).dueForEach(new int[] {-1, 15, 16, 17, 18, 19, 30, 31, MIN, MAX}, 0, -1, "count", 0);
    }

    private static void countOfKinds() {
        Bank b = bank("count: 20 + k grams left of KIND k");
        for (int kind = 0; kind <= 9; kind++) {
            b.did("gift", kind, 1 << kind, 5, 0);
        }
        for (int kind = 0; kind <= 9; kind++) {
            b.due(1 << kind, "count", 20 + kind);
        }
        b.due(1023, "count", 9);
    }
}

/** Where Terms I and II and promises 10, 11 and 26 name a boundary: BARRED, MAY GO, PARCELS, LINES, led. */
public final class ParcelEdgesTest {
    private static final int MIN = Integer.MIN_VALUE;
    private static final int MAX = Integer.MAX_VALUE;
    private static final Check check = new Check("ParcelEdgesTest");

    public static void main(String[] args) {
        parcelOfNoFamily();
        noReferral();
        referralFromFirstToLast();
        referralUsedUp();
        referralWithTheEarliestLastDay();
        referralToldFirst();
        referralsThatDoNotLetAreLeft();
        nothingAtAll();
        nothingLeavesAllAsItWas();
        oneGramIsEnough();
        barred();
        sparedDays();
        sparedBeyondAllDays();
        greatestSpare();
        earliestLastDayFirst();
        lowerLotThen();
        needMetJust();
        nothingIsTakenForNoNeed();
        swapsRuleByRule();
        swapOfBarredKinds();
        swapByItsOwnSparedDays();
        swapsAreNotSwapped();
        ofNoParcel();
        ofWhat();
        ofLines();
        mostLines();
        shortAtMost();
        shortBeyondAnInt();
        ledOfNone();
        ledAlone();
        check.end();
    }

    private static Bank bank(String sentence) {
        return new Bank(check, sentence);
    }

    /** A FAMILY of one head without BARS that may have twenty parcels. */
    private static Bank referred(String sentence) {
        return bank(sentence).did("table").did("family", 0, 1, 0).did("refer", 0, 0, 1000, 20);
    }

    private static void lines(Bank b, int parcel, int[]... due) {
        b.due(due.length, "of", parcel, 2);
        for (int k = 0; k < due.length; k++) {
            b.due(due[k][0], "of", parcel, 10 + k).due(due[k][1], "of", parcel, 400 + k);
        }
        b.due(-1, "of", parcel, 10 + due.length).due(-1, "of", parcel, 400 + due.length);
    }

    private static int[] line(int lot, int grams) {
        return new int[] {lot, grams};
    }

    private static void parcelOfNoFamily() {
        bank("parcel: -2 ahead of any FAMILY").did("table").due(-2, "parcel", 0).due(-2, "parcel", -1);
        referred("parcel: -2").rules("need 0 1").did("gift", 0, 9, 9, 0)
            .dueForEach(new int[] {-1, 1, 39, 40, MIN, MAX}, 0, -2, "parcel", 0).due(0, "count", 5).due(0, "parcel", 0);
    }

    private static Bank fed(String sentence) {
        return bank(sentence).did("table").did("family", 0, 1, 0).did("family", 0, 1, 0).rules("need 0 1")
            .did("gift", 0, 100, 1000, 0);
    }

    private static void noReferral() {
        fed("parcel: -3 without a REFERRAL").due(-3, "parcel", 0).due(0, "count", 5).due(100, "lot", 0, 4)
            .did("refer", 1, 0, 1000, 20).due(-3, "parcel", 0).due(0, "parcel", 1).due(2, "refer", 0, 0, 0, 1)
            .due(1, "parcel", 0);
    }

    private static void referralFromFirstToLast() {
        fed("those that let: TODAY in it").did("refer", 0, 1, 2, 20).due(-3, "parcel", 0).did("go", 1)
            .due(0, "parcel", 0).did("go", 1).due(1, "parcel", 0).did("go", 1).due(-3, "parcel", 0)
            .due(18, "allowed", 0, 2);
    }

    private static void referralUsedUp() {
        fed("those that let: parcels left").did("refer", 0, 0, 5, 1).due(0, "parcel", 0).due(-3, "parcel", 0);
        Bank b = fed("those that let: twenty parcels").did("refer", 0, 0, 5, 20).did(19, "parcel", 0);
        b.due(1, "allowed", 0, 0).due(19, "parcel", 0).due(0, "allowed", 0, 0).due(-3, "parcel", 0).due(20, "count", 5);
    }

    private static void referralWithTheEarliestLastDay() {
        Bank b = fed("of those that let the one with the earliest last day").did("refer", 0, 0, 6, 2);
        b.did("refer", 0, 0, 5, 2).did("refer", 0, 0, 7, 2).did("parcel", 0).due(5, "allowed", 0, 5);
        b.due(4, "allowed", 0, 6).did("parcel", 0).due(4, "allowed", 0, 5).did("parcel", 0).due(3, "allowed", 0, 6);
        b.due(2, "allowed", 0, 7);
    }

    private static void referralToldFirst() {
        Bank b = fed("then the one told first").did("refer", 0, 1, 5, 1).did("refer", 0, 0, 5, 1).did("go", 1);
        b.did("parcel", 0).due(1, "allowed", 0, 0).due(1, "allowed", 0, 1);
        Bank c = fed("then the one told first of three").did("refer", 0, 0, 5, 1).did("refer", 0, 1, 5, 2);
        c.did("refer", 0, 2, 5, 4).did("go", 2).did("parcel", 0).due(0, "allowed", 0, 0).due(6, "allowed", 0, 2);
        c.did("parcel", 0).due(1, "allowed", 0, 1).due(5, "allowed", 0, 2);
    }

    private static void referralsThatDoNotLetAreLeft() {
        Bank b = fed("an earlier last day does not count if it does not let").did("refer", 0, 0, 0, 1);
        b.did("refer", 0, 2, 2, 1).did("refer", 0, 1, 3, 1).did("go", 1).did("parcel", 0);
        b.due(1, "allowed", 0, 0).due(1, "allowed", 0, 2).due(0, "allowed", 0, 1).due(-3, "parcel", 0);
    }

    private static void nothingAtAll() {
        referred("-4 without RULES").did("gift", 0, 9, 9, 0).due(-4, "parcel", 0);
        referred("-4 without LOTS").rules("need 0 1").due(-4, "parcel", 0);
        referred("-4 with a NEED of 0").rules("need 0 0").did("gift", 0, 9, 9, 0).due(-4, "parcel", 0);
        referred("-4 with no HEADS above").rules("need 0 5 above 1").did("gift", 0, 9, 9, 0).due(-4, "parcel", 0);
        referred("-4 with LOTS of other KINDS").rules("need 0 1").did("gift", 1, 9, 9, 0).due(-4, "parcel", 0);
        referred("-4 with a swap that has nothing").rules("need 0 1; swap 1 for 0; swap 0 for 2").did("gift", 2, 9, 9, 0)
            .due(-4, "parcel", 0);
        referred("-4 with LOTS that are used up").rules("need 0 9").did("gift", 0, 9, 9, 0).did("parcel", 0)
            .due(-4, "parcel", 0);
    }

    private static void nothingLeavesAllAsItWas() {
        Bank b = referred("if nothing at all could be taken, there is none").rules("need 0 5");
        b.due(-4, "parcel", 0).due(0, "count", 5).due(0, "count", 13).due(20, "allowed", 0, 0).due(-1, "of", 0, 0);
        b.did("gift", 0, 3, 9, 0).due(0, "parcel", 0).due(2, "count", 13).due(19, "allowed", 0, 0);
    }

    private static void oneGramIsEnough() {
        Bank b = referred("one gram is a PARCEL").rules("need 9 100000").did("gift", 9, 1, 9, 0).due(0, "parcel", 0);
        lines(b, 0, line(0, 1));
        b.due(99999, "of", 0, 4).due(19, "allowed", 0, 0);
    }

    private static void barredBy(int contents, int bars, boolean due) {
        bank("BARRED by CONTENTS " + contents + " and BARS " + bars).did("table").did("family", 0, 1, bars)
            .did("refer", 0, 0, 9, 9).did("contents", 9, contents).rules("need 9 1").did("gift", 9, 9, 9, 0)
            .due(due ? -4 : 0, "parcel", 0);
    }

    private static void barred() {
        barredBy(0, 0, false);
        barredBy(0, 255, false);
        barredBy(255, 0, false);
        barredBy(1, 1, true);
        barredBy(128, 128, true);
        barredBy(127, 128, false);
        barredBy(254, 1, false);
        barredBy(15, 240, false);
        barredBy(15, 248, true);
        barredBy(255, 255, true);
    }

    private static void sparedDays() {
        Bank b = referred("not ahead of TODAY and SPARED days more").rules("need 0 50; spare 0 3").did("go", 2);
        b.did("gift", 0, 1, 4, 0).did("gift", 0, 1, 5, 0).did("gift", 0, 1, 6, 0).due(0, "parcel", 0);
        lines(b, 0, line(1, 1), line(2, 1));
        Bank c = referred("SPARED days 0 without").rules("need 0 50; spare 1 3").did("go", 2);
        c.did("gift", 0, 1, 2, 0).did("gift", 0, 1, 3, 0).due(0, "parcel", 0);
        lines(c, 0, line(0, 1), line(1, 1));
        Bank d = referred("SPARED days 0 as told").rules("need 0 50; spare 0 0").did("gift", 0, 1, 0, 0);
        d.due(0, "parcel", 0).did("gift", 0, 1, 0, 0).did("go", 1).due(-4, "parcel", 0);
    }

    private static void sparedBeyondAllDays() {
        Bank b = referred("DAYS to 1000").rules("need 0 1; spare 0 1000").did("gift", 0, 9, 1000, 0);
        b.did("gift", 0, 9, 999, 0).due(0, "parcel", 0);
        lines(b, 0, line(0, 1));
        b.did("go", 1).due(-4, "parcel", 0).rules("need 0 1; spare 0 999").due(1, "parcel", 0);
        lines(b, 1, line(0, 1));
    }

    private static void greatestSpare() {
        String[] told = {"spare 0 3; spare 0 2", "spare 0 2; spare 0 3", "spare 0 3; spare 0 3; spare 1 9"};
        for (String spares : told) {
            Bank b = referred("the greatest of its \"spare\" RULES").rules("need 0 50; " + spares);
            b.did("gift", 0, 1, 2, 0).did("gift", 0, 1, 3, 0).due(0, "parcel", 0);
            lines(b, 0, line(1, 1));
        }
    }

    private static void earliestLastDayFirst() {
        Bank b = referred("the earliest last day first").rules("need 0 6").did("gift", 0, 2, 7, 0);
        b.did("gift", 0, 2, 6, 0).did("gift", 0, 2, 8, 0).did("gift", 0, 2, 5, 0).due(0, "parcel", 0);
        lines(b, 0, line(3, 2), line(1, 2), line(0, 2));
        b.due(2, "lot", 2, 4);
        Bank c = referred("the earliest last day first, told between two others").rules("need 0 6");
        c.did("gift", 0, 2, 7, 0).did("gift", 0, 2, 9, 0).did("gift", 0, 2, 8, 0).due(0, "parcel", 0);
        lines(c, 0, line(0, 2), line(2, 2), line(1, 2));
    }

    private static void lowerLotThen() {
        Bank b = referred("then the lower LOT").rules("need 0 5").did(3, "gift", 0, 2, 7, 0).due(0, "parcel", 0);
        lines(b, 0, line(0, 2), line(1, 2), line(2, 1));
        b.due(1, "lot", 2, 4).due(1, "lot", 2, 5);
    }

    private static void needMetJust() {
        int[][] lotLeftShort = {{4, 0, 1}, {5, 0, 0}, {6, 1, 0}};
        for (int[] due : lotLeftShort) {
            Bank b = referred("a NEED of 5 of a LOT of " + due[0]).rules("need 0 5; swap 1 for 0");
            b.did("gift", 0, due[0], 9, 0).due(0, "parcel", 0);
            lines(b, 0, line(0, Math.min(5, due[0])));
            b.due(due[1], "lot", 0, 4).due(due[2], "of", 0, 4).due(due[2], "count", 13);
        }
        Bank c = referred("a NEED that just empties a LOT takes none of the next").rules("need 0 5; swap 1 for 0");
        c.did("gift", 0, 5, 8, 0).did("gift", 0, 5, 9, 0).did("gift", 1, 5, 9, 0).due(0, "parcel", 0);
        lines(c, 0, line(0, 5));
        Bank d = referred("LOTS with grams left").rules("need 0 5").did("gift", 0, 5, 8, 0).did("gift", 0, 9, 9, 0);
        d.did("parcel", 0).due(1, "parcel", 0);
        lines(d, 1, line(1, 5));
    }

    private static void nothingIsTakenForNoNeed() {
        Bank b = referred("no LINE for a NEED of 0").rules("need 0 0; need 1 5; swap 2 for 0").did("gift", 0, 9, 9, 0);
        b.did("gift", 1, 9, 9, 0).did("gift", 2, 9, 9, 0).due(0, "parcel", 0);
        lines(b, 0, line(1, 5));
        b.due(0, "of", 0, 4);
    }

    private static void swapsRuleByRule() {
        Bank b = referred("RULE by RULE in order").rules("swap 3 for 0; swap 2 for 0; need 0 6; swap 1 for 0");
        b.did("gift", 0, 1, 9, 0).did("gift", 1, 2, 9, 0).did("gift", 2, 2, 9, 0).did("gift", 3, 2, 9, 0);
        b.due(0, "parcel", 0);
        lines(b, 0, line(0, 1), line(3, 2), line(2, 2), line(1, 1));
        b.due(0, "of", 0, 4).due(1, "lot", 1, 4);
    }

    private static void swapOfBarredKinds() {
        Bank b = bank("what is missing (all, if BARRED), unless BARRED").did("table").did("family", 0, 1, 1);
        b.did("refer", 0, 0, 9, 9).did("contents", 0, 1).did("contents", 1, 3).rules("need 0 5; swap 1 for 0; swap 2 for 0");
        b.did("gift", 0, 9, 9, 0).did("gift", 1, 9, 9, 0).did("gift", 2, 4, 9, 0).due(0, "parcel", 0);
        lines(b, 0, line(2, 4));
        b.due(1, "of", 0, 4).due(-4, "parcel", 0);
    }

    private static void swapByItsOwnSparedDays() {
        Bank b = referred("as it may go by its own SPARED days").rules("need 0 9; spare 0 5; swap 1 for 0; spare 1 2");
        b.did("gift", 0, 1, 4, 0).did("gift", 0, 1, 5, 0).did("gift", 1, 1, 1, 0).did("gift", 1, 1, 2, 0);
        b.due(0, "parcel", 0);
        lines(b, 0, line(1, 1), line(3, 1));
    }

    private static void swapsAreNotSwapped() {
        Bank b = referred("only the KIND that \"swap\" names for it").rules("need 0 5; swap 1 for 0; swap 2 for 1");
        b.did("gift", 2, 9, 9, 0).due(-4, "parcel", 0).did("gift", 1, 2, 9, 0).due(0, "parcel", 0);
        lines(b, 0, line(1, 2));
        b.due(3, "of", 0, 4);
    }

    private static void ofNoParcel() {
        Bank b = referred("of: NONE without such a PARCEL").rules("need 0 1").did("gift", 0, 9, 9, 0);
        b.due(-1, "of", 0, 0).did("parcel", 0).did("go", 1).did("parcel", 0).due(0, "of", 0, 1).due(1, "of", 1, 1);
        b.dueForEach(new int[] {-1, 2, 3, MIN, MAX}, 0, -1, "of", 0, 1);
    }

    private static void ofWhat() {
        Bank b = fed("of: NONE without such a what").did("refer", 1, 0, 9, 9).did("parcel", 1);
        int[] told = {1, 0, 1, 1, 0};
        for (int what = 0; what < told.length; what++) {
            b.due(told[what], "of", 0, what);
        }
        b.due(0, "of", 0, 10).due(1, "of", 0, 400);
        b.dueForEach(new int[] {-1, 5, 6, 7, 8, 9, 11, 399, 401, 410, MIN, MAX, MIN + 10, MIN + 400}, 1, -1, "of", 0, 0);
    }

    private static void ofLines() {
        Bank b = referred("a LOT may have several LINES").rules("need 0 2; need 1 3; need 2 4; swap 1 for 0; swap 1 for 2");
        b.did("gift", 1, 100, 9, 0).due(0, "parcel", 0);
        lines(b, 0, line(0, 2), line(0, 3), line(0, 4));
        b.due(9, "of", 0, 3).due(9, "lot", 0, 5).due(91, "lot", 0, 4);
    }

    /** Nine KINDS each take a gram of the first LOT, then the tenth takes all LOTS. */
    private static void mostLines() {
        StringBuilder rules = new StringBuilder("need9 100000");
        for (int kind = 0; kind < 9; kind++) {
            rules.append(";need").append(kind).append(" 1;swap9for").append(kind);
        }
        Bank b = referred("LINES as many as there can be").rules(rules.toString()).did(200, "gift", 9, 10, 9, 0);
        b.due(0, "parcel", 0).due(209, "of", 0, 2).due(2000, "of", 0, 3).due(98000 + 9, "of", 0, 4);
        b.due(0, "of", 0, 10).due(0, "of", 0, 18).due(0, "of", 0, 19).due(1, "of", 0, 20).due(199, "of", 0, 218);
        b.due(-1, "of", 0, 219).due(-1, "of", 0, 399).due(1, "of", 0, 400).due(1, "of", 0, 409).due(10, "of", 0, 410);
        b.due(10, "of", 0, 608).due(-1, "of", 0, 609).due(0, "count", 9).due(2000, "count", 10);
    }

    private static String thirtyNeeds() {
        return "need0 100000" + ";need0 100000".repeat(29);
    }

    private static void shortAtMost() {
        bank("SHORT by all RULES but a gram").did("table").did("family", 0, 12, 0).did("refer", 0, 0, 9, 1)
            .rules(thirtyNeeds()).did("gift", 0, 1, 9, 0).due(0, "parcel", 0).due(35999999, "of", 0, 4)
            .due(35999999, "count", 13);
        bank("a PARCEL as heavy as one can be").did("table").did("family", 0, 12, 0).did("refer", 0, 0, 9, 1)
            .rules(thirtyNeeds()).did(36, "gift", 0, 1000000, 9, 7).due(0, "parcel", 0).due(0, "of", 0, 4)
            .due(36000000, "of", 0, 3).due(36000000, "led", 7, 0).due(36000000, "count", 10);
    }

    private static void shortBeyondAnInt() {
        Bank b = bank("SHORT in all PARCELS").did("table").did("family", 0, 12, 0).did(5, "refer", 0, 0, 9, 20);
        b.rules(thirtyNeeds());
        for (int i = 0; i < 100; i++) {
            b.did("gift", 0, 1, 9, 0).did("parcel", 0);
        }
        b.due(3599999900L, "count", 13).due(100, "count", 5).due(100, "led", 0, 0);
    }

    private static void ledOfNone() {
        Bank b = referred("led: NONE").rules("need 0 1").did("gift", 0, 9, 9, 0).did("gift", 0, 9, 8, 19);
        b.did("parcel", 0).due(0, "led", 0, 0).due(1, "led", 19, 0);
        b.dueForEach(new int[] {-1, 20, MIN, MAX}, 0, -1, "led", 0, 0);
        b.dueForEach(new int[] {-1, 1, 39, 40, MIN, MAX}, 1, -1, "led", 0, 0);
    }

    private static void ledAlone() {
        Bank b = fed("a FAMILY had in PARCELS").did("refer", 0, 0, 9, 9).did("refer", 1, 0, 9, 9).did("parcel", 0);
        b.did("parcel", 0).did("parcel", 1).did("want", 0, 0, 50).did("part", 0).did("weigh", 0, 7, 0).did("go", 60);
        b.due(2, "led", 0, 0).due(1, "led", 0, 1).due(0, "led", 1, 0);
    }
}

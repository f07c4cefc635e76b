/** Where Terms I and II and promises 5 to 9 name a boundary: TABLES, FAMILIES, REFERRALS, NEED. */
public final class FamilyEdgesTest {
    private static final int MIN = Integer.MIN_VALUE;
    private static final int MAX = Integer.MAX_VALUE;
    private static final Check check = new Check("FamilyEdgesTest");

    public static void main(String[] args) {
        tablesToTheLast();
        familyOfNoTable();
        familyHeads();
        familyBars();
        familiesToTheLast();
        referOfNoFamily();
        referDays();
        referLastAheadOfFirst();
        referParcels();
        referralsToTheLast();
        allowedOfNoFamily();
        allowedOnNoDay();
        allowedFromFirstToLast();
        allowedStill();
        allowedAtMost();
        needOfNoFamily();
        needOfNoKind();
        needWithoutRules();
        needAbove();
        needAtMost();
        needIfBarred();
        check.end();
    }

    private static Bank bank(String sentence) {
        return new Bank(check, sentence);
    }

    private static Bank withFamily(String sentence, int heads) {
        return bank(sentence).did("table").did("family", 0, heads, 0);
    }

    private static void tablesToTheLast() {
        Bank b = bank("TABLES 0 .. 11 (12 at most)");
        for (int i = 0; i <= 11; i++) {
            b.due(i, "table");
        }
        b.due(-5, "table").due(-5, "table").due(12, "count", 2).due(0, "got", 11, 0).due(-1, "got", 12, 0);
    }

    private static void familyOfNoTable() {
        bank("family: -2 ahead of any TABLE").dueForEach(new int[] {0, -1, 11, 12}, 0, -2, "family", 0, 1, 0);
        bank("family: -2").did("table").did("table").due(0, "family", 1, 1, 0)
            .dueForEach(new int[] {-1, 2, 11, 12, MIN, MAX}, 0, -2, "family", 0, 1, 0).due(1, "count", 3)
            .due(2, "table").due(1, "family", 2, 1, 0);
        bank("family: -2, with all TABLES there").did(12, "table").due(0, "family", 11, 1, 0)
            .due(-2, "family", 12, 1, 0);
    }

    private static void familyHeads() {
        bank("HEADS (1 .. 12)").did("table").due(0, "family", 0, 1, 0).due(1, "family", 0, 12, 0)
            .dueForEach(new int[] {0, 13, -1, MIN, MAX}, 1, -1, "family", 0, 1, 0).due(2, "count", 3);
    }

    private static void familyBars() {
        bank("BARS (bits 0 .. 255)").did("table").due(0, "family", 0, 1, 0).due(1, "family", 0, 1, 255)
            .dueForEach(new int[] {-1, 256, MIN, MAX}, 2, -1, "family", 0, 1, 0).due(2, "count", 3);
    }

    private static void familiesToTheLast() {
        Bank b = bank("FAMILIES 0 .. 39 (40 at most)").did("table").did("table").did(39, "family", 0, 1, 0);
        b.due(39, "family", 1, 12, 255).due(-5, "family", 1, 12, 255).due(-5, "family", 0, 1, 0).due(40, "count", 3);
        b.due(1, "refer", 39, 0, 0, 1).due(-2, "refer", 40, 0, 0, 1);
        b.due(1, "allowed", 39, 0).due(-1, "allowed", 40, 0).due(0, "need", 39, 0).due(-1, "need", 40, 0);
        b.due(0, "led", 0, 39).due(-1, "led", 0, 40).due(-4, "parcel", 39).due(-2, "parcel", 40);
    }

    private static void referOfNoFamily() {
        bank("refer: -2 ahead of any FAMILY").did("table").due(-2, "refer", 0, 0, 0, 1).due(0, "count", 4);
        withFamily("refer: -2", 1).did("family", 0, 1, 0).due(1, "refer", 1, 0, 0, 1)
            .dueForEach(new int[] {-1, 2, 39, 40, MIN, MAX}, 0, -2, "refer", 0, 0, 0, 1).due(1, "count", 4);
    }

    private static void referDays() {
        withFamily("refer: days 0 .. 1000", 1).due(1, "refer", 0, 0, 1000, 1).due(2, "refer", 0, 1000, 1000, 1)
            .due(3, "refer", 0, 0, 0, 1).dueForEach(new int[] {-1, MIN}, 1, -1, "refer", 0, 0, 1000, 1)
            .dueForEach(new int[] {1001, MAX}, 2, -1, "refer", 0, 0, 1000, 1)
            .due(-1, "refer", 0, 1001, 1001, 1).due(-1, "refer", 0, -1, -1, 1).due(3, "count", 4);
        withFamily("refer: days that are behind can be told", 1).did("go", 5).due(1, "refer", 0, 0, 4, 1)
            .due(-3, "parcel", 0).due(1, "allowed", 0, 4).due(0, "allowed", 0, 5);
    }

    private static void referLastAheadOfFirst() {
        withFamily("refer: -1 (the last day ahead of the first)", 1).due(-1, "refer", 0, 5, 4, 1)
            .due(1, "refer", 0, 5, 5, 1).due(2, "refer", 0, 5, 6, 1).due(-1, "refer", 0, 1000, 0, 1)
            .due(-1, "refer", 0, 1000, 999, 1).due(-1, "refer", 0, MAX, MIN, 1).due(2, "count", 4);
    }

    private static void referParcels() {
        withFamily("REFERRALS: parcels (1 .. 20)", 1).due(1, "refer", 0, 0, 5, 1).due(2, "refer", 0, 6, 9, 20)
            .dueForEach(new int[] {0, 21, -1, MIN, MAX}, 3, -1, "refer", 0, 0, 9, 1).due(2, "count", 4)
            .due(1, "allowed", 0, 0).due(20, "allowed", 0, 9);
    }

    private static void referralsToTheLast() {
        Bank b = withFamily("REFERRALS, 100 at most", 1).did("family", 0, 1, 0);
        b.did(50, "refer", 0, 0, 0, 1).did(49, "refer", 1, 0, 0, 1).due(100, "refer", 1, 0, 9, 20);
        b.due(-5, "refer", 1, 0, 9, 20).due(-5, "refer", 0, 0, 0, 1).due(100, "count", 4);
        b.due(50, "allowed", 0, 0).due(69, "allowed", 1, 0).did("go", 1).due(-5, "refer", 0, 1, 1, 1);
    }

    private static void allowedOfNoFamily() {
        withFamily("allowed: NONE without such a FAMILY", 1).did("refer", 0, 0, 9, 4).due(4, "allowed", 0, 0)
            .dueForEach(new int[] {-1, 1, 39, 40, MIN, MAX}, 0, -1, "allowed", 0, 0);
    }

    private static void allowedOnNoDay() {
        withFamily("allowed: on a day (0 .. 1000)", 1).did("refer", 0, 0, 1000, 4).due(4, "allowed", 0, 0)
            .due(4, "allowed", 0, 1000).dueForEach(new int[] {-1, 1001, MIN, MAX}, 1, -1, "allowed", 0, 0);
        withFamily("allowed: 0 without REFERRALS, not NONE", 1).due(0, "allowed", 0, 0).due(0, "allowed", 0, 1000);
    }

    private static void allowedFromFirstToLast() {
        withFamily("the first and the last day of it", 1).did("refer", 0, 3, 5, 4).due(0, "allowed", 0, 2)
            .due(4, "allowed", 0, 3).due(4, "allowed", 0, 5).due(0, "allowed", 0, 6);
        withFamily("REFERRALS that meet on one day", 1).did("refer", 0, 3, 5, 4).did("refer", 0, 5, 7, 8)
            .due(4, "allowed", 0, 4).due(12, "allowed", 0, 5).due(8, "allowed", 0, 6);
        withFamily("of other FAMILIES nothing is told", 1).did("family", 0, 1, 0).did("refer", 0, 0, 9, 4)
            .due(4, "allowed", 0, 0).due(0, "allowed", 1, 0);
    }

    private static void allowedStill() {
        Bank b = withFamily("how many it may still have", 1).rules("need 0 1").did("gift", 0, 9, 9, 0);
        b.did("refer", 0, 0, 0, 2).due(2, "allowed", 0, 0).did("parcel", 0).due(1, "allowed", 0, 0).did("parcel", 0);
        b.due(0, "allowed", 0, 0).due(-3, "parcel", 0).due(0, "allowed", 0, 0).due(1, "count", 4);
    }

    private static void allowedAtMost() {
        withFamily("a hundred REFERRALS of twenty parcels", 1).did(100, "refer", 0, 0, 1000, 20)
            .due(2000, "allowed", 0, 0).due(2000, "allowed", 0, 1000);
    }

    private static void needOfNoFamily() {
        withFamily("need: NONE without such a FAMILY", 1).rules("need 0 7").due(7, "need", 0, 0)
            .dueForEach(new int[] {-1, 1, 39, 40, MIN, MAX}, 0, -1, "need", 0, 0);
    }

    private static void needOfNoKind() {
        withFamily("need: NONE without such a KIND", 1).rules("need 0 7; need 9 8").due(7, "need", 0, 0)
            .due(8, "need", 0, 9).dueForEach(new int[] {-1, 10, MIN, MAX}, 1, -1, "need", 0, 0);
    }

    private static void needWithoutRules() {
        withFamily("NEED is 0 without a RULE of it, not NONE", 12).due(0, "need", 0, 0).due(0, "need", 0, 9)
            .rules("need 4 7; spare 5 9; swap 5 for 6").due(84, "need", 0, 4).due(0, "need", 0, 3)
            .due(0, "need", 0, 5).due(0, "need", 0, 6).rules("need 4 0").due(0, "need", 0, 4);
    }

    private static void needAbove() {
        Bank b = bank("with \"above\": of those FAMILIES alone that have more HEADS").did("table");
        b.did("family", 0, 1, 0).did("family", 0, 2, 0).did("family", 0, 11, 0).did("family", 0, 12, 0);
        b.rules("need 0 1 above 0; need 1 1 above 1; need 2 1 above 11; need 3 1 above 12; need 4 1; need 4 10 above 2");
        int[][] due = {{1, 0, 0, 0, 1}, {2, 2, 0, 0, 2}, {11, 11, 0, 0, 121}, {12, 12, 12, 0, 132}};
        for (int family = 0; family < due.length; family++) {
            for (int kind = 0; kind < due[family].length; kind++) {
                b.due(due[family][kind], "need", family, kind);
            }
        }
    }

    private static void needAtMost() {
        withFamily("NEED by thirty RULES of 100,000 grams for twelve HEADS", 12)
            .rules("need0 100000" + ";need0 100000".repeat(29)).due(36000000, "need", 0, 0);
    }

    private static void needIfBarred() {
        bank("NEED (also if BARRED)").did("table").did("family", 0, 3, 128).did("contents", 2, 128)
            .rules("need 2 5").due(15, "need", 0, 2).did("contents", 2, 255).due(15, "need", 0, 2);
    }
}

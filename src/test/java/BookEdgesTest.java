/** Where Term VI and promises 24 and 25 name a boundary: WEIGHINGS, GIVEN. */
public final class BookEdgesTest {
    private static final int MIN = Integer.MIN_VALUE;
    private static final int MAX = Integer.MAX_VALUE;
    private static final Check check = new Check("BookEdgesTest");

    public static void main(String[] args) {
        weighNoLot();
        weighGrams();
        weighDays();
        weighingsToTheLast();
        weighingsThatAreRefusedChangeNothing();
        weighingChangesNoLot();
        givenByNoGiver();
        givenOnNoDay();
        knownByThen();
        toldLast();
        elseTheGramsTold();
        overTheLotsOfThatGiver();
        givenAtMost();
        check.end();
    }

    private static Bank bank(String sentence) {
        return new Bank(check, sentence);
    }

    private static Bank withLot(String sentence) {
        return bank(sentence).did("gift", 0, 10, 9, 3);
    }

    private static void weighNoLot() {
        bank("weigh: -2 ahead of any LOT").due(-2, "weigh", 0, 0, 0).due(0, "count", 7);
        withLot("weigh: -2").did("gift", 1, 20, 9, 3).due(1, "weigh", 1, 1, 0)
            .dueForEach(new int[] {-1, 2, 199, 200, MIN, MAX}, 0, -2, "weigh", 0, 1, 0).due(1, "count", 7);
        bank("weigh: -2, with all LOTS there").did(200, "gift", 0, 1, 0, 0).due(1, "weigh", 199, 1, 0)
            .due(-2, "weigh", 200, 1, 0);
    }

    private static void weighGrams() {
        withLot("WEIGHINGS: grams 0 .. 1,000,000").due(1, "weigh", 0, 0, 5).due(0, "given", 3, 5)
            .due(2, "weigh", 0, 1000000, 5).due(1000000, "given", 3, 5)
            .dueForEach(new int[] {-1, 1000001, MIN, MAX}, 1, -1, "weigh", 0, 1, 5).due(2, "count", 7);
    }

    private static void weighDays() {
        withLot("WEIGHINGS: known on a day (0 .. 100,000)").due(1, "weigh", 0, 7, 100000).due(10, "given", 3, 99999)
            .due(7, "given", 3, 100000).due(2, "weigh", 0, 8, 0).due(8, "given", 3, 0)
            .dueForEach(new int[] {-1, 100001, MIN, MAX}, 2, -1, "weigh", 0, 1, 5).due(2, "count", 7);
    }

    private static void weighingsToTheLast() {
        Bank b = withLot("WEIGHINGS, 100 at most").did("gift", 1, 20, 9, 4).did(50, "weigh", 0, 5, 0);
        b.did(49, "weigh", 1, 5, 0).due(100, "weigh", 1, 6, 1).due(-5, "weigh", 1, 7, 1).due(-5, "weigh", 0, 0, 0);
        b.due(100, "count", 7).due(6, "given", 4, 1).due(5, "given", 4, 0).due(5, "given", 3, 1);
    }

    private static void weighingsThatAreRefusedChangeNothing() {
        withLot("weigh that is REFUSED").did("weigh", 0, 12, 5).due(-1, "weigh", 0, -1, 0).due(-1, "weigh", 0, 1000001, 0)
            .due(-1, "weigh", 0, 3, -1).due(-1, "weigh", 0, 3, 100001).due(-2, "weigh", 1, 3, 0).due(10, "given", 3, 4)
            .due(12, "given", 3, 100000).due(1, "count", 7);
    }

    private static void weighingChangesNoLot() {
        withLot("what was given in truth is not what is left").did("weigh", 0, 0, 0).due(10, "lot", 0, 1)
            .due(10, "lot", 0, 4).due(10, "count", 8).due(10, "count", 9).due(10, "count", 20);
        withLot("a LOT of which nothing is left can be weighed").did("go", 10).due(0, "lot", 0, 4)
            .due(1, "weigh", 0, 4, 0).due(4, "given", 3, 0);
    }

    private static void givenByNoGiver() {
        bank("given: NONE without such a giver").did("gift", 0, 10, 9, 0).did("gift", 0, 20, 9, 19)
            .due(10, "given", 0, 0).due(20, "given", 19, 0).due(0, "given", 1, 0).due(0, "given", 18, 0)
            .dueForEach(new int[] {-1, 20, MIN, MAX}, 0, -1, "given", 0, 0);
    }

    private static void givenOnNoDay() {
        withLot("given: NONE without such a day (0 .. 100,000)").due(10, "given", 3, 0).due(10, "given", 3, 100000)
            .dueForEach(new int[] {-1, 100001, MIN, MAX}, 1, -1, "given", 3, 0);
    }

    private static void knownByThen() {
        withLot("those known by then").did("weigh", 0, 12, 5).due(10, "given", 3, 4).due(12, "given", 3, 5)
            .due(12, "given", 3, 6);
        withLot("a day that is not there yet can be known of").did("weigh", 0, 12, 600).due(10, "given", 3, 599)
            .due(12, "given", 3, 600).due(0, "count", 0);
    }

    private static void toldLast() {
        withLot("the WEIGHING told last").did("weigh", 0, 12, 5).did("weigh", 0, 14, 5).due(14, "given", 3, 5)
            .did("weigh", 0, 16, 4).due(16, "given", 3, 5).due(16, "given", 3, 4).due(10, "given", 3, 3)
            .did("weigh", 0, 18, 6).due(16, "given", 3, 5).due(18, "given", 3, 6);
    }

    private static void elseTheGramsTold() {
        withLot("else the grams told with the LOT").due(10, "given", 3, 0).did("weigh", 0, 0, 1).due(10, "given", 3, 0)
            .due(0, "given", 3, 1);
    }

    private static void overTheLotsOfThatGiver() {
        withLot("over the LOTS of that giver").did("gift", 9, 20, 9, 3).did("gift", 0, 40, 9, 4).did("weigh", 1, 21, 2)
            .did("weigh", 2, 41, 2).due(30, "given", 3, 1).due(31, "given", 3, 2).due(40, "given", 4, 1)
            .due(41, "given", 4, 2).due(0, "given", 5, 2);
    }

    private static void givenAtMost() {
        bank("GIVEN as much as can be").did(200, "gift", 9, 1000000, 0, 19).due(200000000, "given", 19, 0)
            .due(200000000, "count", 8).due(200000000, "count", 29).did("go", 1).due(200000000, "count", 12)
            .due(200000000, "given", 19, 0);
    }
}

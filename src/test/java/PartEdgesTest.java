/** Where Term IV and promises 13 to 15 name a boundary: WANTS, PARTS, LEVEL. */
public final class PartEdgesTest {
    private static final int MIN = Integer.MIN_VALUE;
    private static final int MAX = Integer.MAX_VALUE;
    private static final int[] NO_KINDS = {-1, 10, MIN, MAX};
    private static final Check check = new Check("PartEdgesTest");

    public static void main(String[] args) {
        wantOfNoTable();
        wantOfKinds();
        wantGrams();
        wantsAreNoneAtFirst();
        wantsThatAreRefusedChangeNothing();
        partOfNoKind();
        partWithoutWants();
        partWithoutGrams();
        partOfSparedLots();
        allWants();
        level();
        gramsThatAreLeft();
        greatestParts();
        fromLotsAsTold();
        takenFromItsWant();
        gotOfNone();
        gotInAll();
        check.end();
    }

    private static Bank bank(String sentence, int tables) {
        return new Bank(check, sentence).did(tables, "table");
    }

    private static void wantOfNoTable() {
        bank("want: -2 ahead of any TABLE", 0).due(-2, "want", 0, 0, 0);
        bank("want: -2", 2).due(0, "want", 1, 0, 1)
            .dueForEach(new int[] {-1, 2, 11, 12, MIN, MAX}, 0, -2, "want", 0, 0, 1).due(1, "want", 1, 0, 1);
        bank("want: -2, with all TABLES there", 12).due(0, "want", 11, 0, 1).due(-2, "want", 12, 0, 1);
    }

    private static void wantOfKinds() {
        bank("want: KINDS 0 .. 9", 1).due(0, "want", 0, 0, 4).due(0, "want", 0, 9, 5)
            .dueForEach(NO_KINDS, 1, -1, "want", 0, 0, 1).due(4, "want", 0, 0, 0).due(5, "want", 0, 9, 0);
    }

    private static void wantGrams() {
        bank("WANTS (0 .. 1,000,000)", 1).due(0, "want", 0, 3, 1000000).due(1000000, "want", 0, 3, 0)
            .dueForEach(new int[] {-1, 1000001, MIN, MAX}, 2, -1, "want", 0, 3, 1).due(0, "want", 0, 3, 1);
    }

    private static void wantsAreNoneAtFirst() {
        Bank b = bank("WANTS 0 at first", 12);
        for (int kind = 0; kind <= 9; kind++) {
            b.due(0, "want", 0, kind, kind).due(0, "want", 11, kind, 10 + kind);
        }
        for (int kind = 0; kind <= 9; kind++) {
            b.due(kind, "want", 0, kind, 0).due(10 + kind, "want", 11, kind, 0);
        }
    }

    private static void wantsThatAreRefusedChangeNothing() {
        bank("want: -1, and it wants what it wanted", 2).did("want", 1, 0, 7).due(-1, "want", 1, 0, 1000001)
            .due(-1, "want", 1, 0, -1).due(-1, "want", 1, 10, 3).due(-2, "want", 2, 0, 3).due(7, "want", 1, 0, 8)
            .due(0, "want", 0, 0, 0);
    }

    private static void partOfNoKind() {
        bank("part: KINDS 0 .. 9", 1).did("gift", 0, 5, 9, 0).did("gift", 9, 6, 9, 0).did("want", 0, 0, 9)
            .did("want", 0, 9, 9).dueForEach(NO_KINDS, 0, -1, "part", 0).due(5, "part", 0).due(6, "part", 9);
    }

    private static void partWithoutWants() {
        bank("part: -4 without TABLES", 0).did("gift", 0, 5, 9, 0).due(-4, "part", 0).due(5, "lot", 0, 4);
        bank("part: -4 (no WANTS)", 2).did("gift", 0, 5, 9, 0).due(-4, "part", 0).did("want", 0, 1, 9).due(-4, "part", 0)
            .did("want", 0, 0, 3).did("want", 0, 0, 0).due(-4, "part", 0).due(5, "lot", 0, 4).due(0, "count", 11)
            .did("want", 1, 0, 1).due(1, "part", 0).due(-4, "part", 0).due(4, "lot", 0, 4);
    }

    private static void partWithoutGrams() {
        bank("part: -4 (nothing that MAY GO)", 1).did("want", 0, 0, 5).due(-4, "part", 0).did("gift", 1, 9, 9, 0)
            .due(-4, "part", 0).due(5, "want", 0, 0, 5).due(0, "got", 0, 0).did("gift", 0, 1, 0, 0).due(1, "part", 0)
            .due(-4, "part", 0).due(4, "want", 0, 0, 4).did("gift", 0, 9, 0, 0).did("go", 1).due(-4, "part", 0)
            .due(4, "want", 0, 0, 4).due(1, "count", 11);
        bank("part: -4, neither WANTS nor grams", 1).due(-4, "part", 0);
    }

    private static void partOfSparedLots() {
        Bank b = bank("PARTS of LOTS that MAY GO", 1).rules("spare 0 3; spare 1 9").did("go", 2).did("want", 0, 0, 50);
        b.did("gift", 0, 7, 4, 0).due(-4, "part", 0).did("gift", 0, 8, 5, 0).due(8, "part", 0).due(7, "lot", 0, 4);
        b.due(8, "lot", 1, 6).rules(" ").due(7, "part", 0).due(7, "lot", 0, 6).due(35, "want", 0, 0, 0);
    }

    private static void parted(int grams, int[] wants, int[] due) {
        Bank b = bank("PARTS of " + grams + " grams", wants.length).did("gift", 4, grams, 9, 0);
        int sum = 0;
        for (int i = 0; i < wants.length; i++) {
            b.did("want", i, 4, wants[i]);
            sum += due[i];
        }
        b.due(sum, "part", 4).due(sum, "lot", 0, 6).due(grams - sum, "lot", 0, 4).due(sum, "count", 11);
        for (int i = 0; i < wants.length; i++) {
            b.due(due[i], "got", i, 4).due(wants[i] - due[i], "want", i, 4, 0);
        }
    }

    private static void allWants() {
        parted(61, new int[] {10, 20, 30}, new int[] {10, 20, 30});
        parted(60, new int[] {10, 20, 30}, new int[] {10, 20, 30});
        parted(59, new int[] {10, 20, 30}, new int[] {10, 20, 29});
        parted(1, new int[] {1}, new int[] {1});
        parted(1, new int[] {0, 0, 1}, new int[] {0, 0, 1});
    }

    private static void level() {
        parted(41, new int[] {10, 20, 30}, new int[] {10, 16, 15});
        parted(31, new int[] {10, 20, 30}, new int[] {10, 11, 10});
        parted(30, new int[] {10, 20, 30}, new int[] {10, 10, 10});
        parted(29, new int[] {10, 20, 30}, new int[] {10, 10, 9});
        parted(50, new int[] {10, 20, 30}, new int[] {10, 20, 20});
        parted(51, new int[] {10, 20, 30}, new int[] {10, 20, 21});
        parted(49, new int[] {10, 20, 30}, new int[] {10, 20, 19});
        parted(9, new int[] {3, 3, 4}, new int[] {3, 3, 3});
    }

    private static void gramsThatAreLeft() {
        parted(1, new int[] {5, 5, 5}, new int[] {1, 0, 0});
        parted(2, new int[] {5, 5, 5}, new int[] {1, 1, 0});
        parted(3, new int[] {5, 5, 5}, new int[] {1, 1, 1});
        parted(2, new int[] {0, 5, 0, 5, 5}, new int[] {0, 1, 0, 1, 0});
        parted(14, new int[] {9, 4, 9, 3}, new int[] {4, 4, 3, 3});
        parted(15, new int[] {9, 4, 9, 3}, new int[] {4, 4, 4, 3});
        parted(16, new int[] {4, 9, 3, 9}, new int[] {4, 5, 3, 4});
        parted(11, new int[] {1, 1, 1, 1, 1, 1, 1, 1, 1, 1, 1, 1}, new int[] {1, 1, 1, 1, 1, 1, 1, 1, 1, 1, 1, 0});
    }

    private static void greatestParts() {
        parted(1000000, new int[] {1000000}, new int[] {1000000});
        parted(1000000, new int[] {1000000, 1}, new int[] {999999, 1});
        parted(999999, new int[] {1000000}, new int[] {999999});
        parted(1000000, new int[] {1000000, 1000000, 1000000}, new int[] {333334, 333333, 333333});
        Bank b = bank("as much as can be wanted", 12).did(200, "gift", 0, 1000000, 9, 0);
        for (int i = 0; i < 12; i++) {
            b.did("want", i, 0, 1000000);
        }
        b.due(12000000, "part", 0).due(1000000, "got", 0, 0).due(1000000, "got", 11, 0).due(188000000, "count", 20);
        Bank c = bank("a gram less than is wanted", 12).did(11, "gift", 0, 1000000, 9, 0).did("gift", 0, 999999, 9, 0);
        for (int i = 0; i < 12; i++) {
            c.did("want", i, 0, 1000000);
        }
        c.due(11999999, "part", 0).due(1000000, "got", 10, 0).due(999999, "got", 11, 0).due(1, "want", 11, 0, 0);
    }

    private static void fromLotsAsTold() {
        Bank b = bank("from LOTS as told", 2).did("gift", 0, 5, 8, 0).did("gift", 0, 5, 7, 0).did("gift", 0, 5, 8, 0);
        b.did("want", 0, 0, 4).did("want", 1, 0, 7).due(11, "part", 0).due(5, "lot", 1, 6).due(5, "lot", 0, 6);
        b.due(1, "lot", 2, 6).due(4, "lot", 2, 4).due(0, "lot", 1, 4).did("want", 1, 0, 4).due(4, "part", 0);
        b.due(5, "lot", 2, 6).due(0, "lot", 2, 5).due(0, "lot", 2, 7);
    }

    private static void takenFromItsWant() {
        bank("what a TABLE gets is taken from its WANT", 2).did("gift", 0, 5, 9, 0).did("want", 0, 0, 4)
            .did("want", 1, 0, 4).did("want", 1, 1, 4).due(5, "part", 0).did("gift", 0, 9, 9, 0).due(3, "part", 0)
            .due(-4, "part", 0).due(4, "got", 0, 0).due(4, "got", 1, 0).due(4, "want", 1, 1, 0);
    }

    private static void gotOfNone() {
        bank("got: NONE ahead of any TABLE", 0).due(-1, "got", 0, 0);
        bank("got: NONE", 2).due(0, "got", 0, 0).due(0, "got", 1, 9)
            .dueForEach(new int[] {-1, 2, 11, 12, MIN, MAX}, 0, -1, "got", 0, 0)
            .dueForEach(NO_KINDS, 1, -1, "got", 0, 0);
    }

    private static void gotInAll() {
        Bank b = bank("got by PARTS in all", 1).did(20, "gift", 9, 1000000, 9, 0);
        for (int i = 1; i <= 20; i++) {
            b.did("want", 0, 9, 1000000).did("part", 9);
        }
        b.due(20000000, "got", 0, 9).due(0, "got", 0, 8).due(20000000, "count", 11);
    }
}

/** Where Term V and promises 16 to 19 name a boundary: MINUTES, LOADS, CAP, ROUNDS. */
public final class VanEdgesTest {
    private static final int MIN = Integer.MIN_VALUE;
    private static final int MAX = Integer.MAX_VALUE;
    private static final int HOUSE = 12;
    private static final Check check = new Check("VanEdgesTest");

    public static void main(String[] args) {
        roadEnds();
        roadUnlike();
        roadMinutes();
        roadsAreNoneAtFirst();
        roadEitherWay();
        roadsThatAreRefusedChangeNothing();
        loadOfNoTable();
        loadGrams();
        loadNoneAnyMore();
        loadsToTheEighth();
        loadsThatAreRefusedChangeNothing();
        capFromTo();
        noLoads();
        aboveCap();
        togetherNoMoreThanCap();
        loadsStay();
        refusedRoundsKeepTheLatest();
        leastMinutes();
        fewestRounds();
        firstRow();
        stopsFromTo();
        mostStops();
        farthest();
        check.end();
    }

    private static Bank bank(String sentence, int tables) {
        return new Bank(check, sentence).did(tables, "table");
    }

    /** So many TABLES from 0 on, each with a LOAD of one gram. */
    private static Bank loaded(String sentence, int tables) {
        Bank b = bank(sentence, tables);
        for (int i = 0; i < tables; i++) {
            b.did("load", i, 1);
        }
        return b;
    }

    private static void row(Bank b, int... due) {
        b.due(due.length, "stop", -1);
        for (int i = 0; i < due.length; i++) {
            b.due(due[i], "stop", i);
        }
        b.due(-1, "stop", due.length);
    }

    private static void roadEnds() {
        int[] nowhere = {-1, 13, MIN, MAX};
        bank("road: TABLES (there or not) 0 .. 11 and 12", 0).due(0, "road", 0, 11, 1).due(0, "road", 11, 0, 1)
            .due(0, "road", 12, 0, 1).due(0, "road", 0, 12, 1).dueForEach(nowhere, 0, -1, "road", 0, 1, 1)
            .dueForEach(nowhere, 1, -1, "road", 0, 1, 1);
    }

    private static void roadUnlike() {
        Bank b = bank("road: two unlike ones", 0);
        for (int i = 0; i <= 12; i++) {
            b.due(-1, "road", i, i, 1);
        }
        b.due(-1, "road", 13, 13, 1).due(-1, "road", -1, -1, 1);
    }

    private static void roadMinutes() {
        bank("MINUTES (0 .. 600)", 0).due(0, "road", 0, 12, 0).due(0, "road", 0, 12, 600)
            .dueForEach(new int[] {-1, 601, MIN, MAX}, 2, -1, "road", 0, 12, 1);
    }

    private static void roadsAreNoneAtFirst() {
        Bank b = loaded("MINUTES 0 at first", 8).due(0, "rounds", 8).due(0, "rounds", 1);
        b.did("road", 0, 12, 9).due(18, "rounds", 1);
    }

    private static void roadEitherWay() {
        loaded("either way alike", 1).did("road", 0, 12, 7).due(14, "rounds", 1).did("road", 12, 0, 9)
            .due(18, "rounds", 1).did("road", 0, 12, 0).due(0, "rounds", 1).did("road", 12, 0, 600)
            .due(1200, "rounds", 1);
        loaded("either way alike, among TABLES", 2).did("road", 12, 0, 50).did("road", 12, 1, 50).did("road", 1, 0, 3)
            .due(103, "rounds", 2).did("road", 0, 1, 4).due(104, "rounds", 2);
    }

    private static void roadsThatAreRefusedChangeNothing() {
        loaded("road: -1, and it is as long as it was", 1).did("road", 0, 12, 7).due(-1, "road", 0, 12, 601)
            .due(-1, "road", 12, 0, -1).due(-1, "road", 0, 13, 1).due(14, "rounds", 1);
    }

    private static void loadOfNoTable() {
        bank("load: -2 ahead of any TABLE", 0).due(-2, "load", 0, 1).due(-2, "load", 0, 0);
        bank("load: -2", 2).due(1, "load", 1, 1).dueForEach(new int[] {-1, 2, 11, 12, MIN, MAX}, 0, -2, "load", 0, 1)
            .due(-2, "load", 2, 0).due(2, "load", 0, 1);
        bank("load: -2, with all TABLES there", 12).due(1, "load", 11, 1).due(-2, "load", 12, 1);
    }

    private static void loadGrams() {
        bank("LOADS 1 .. 1,000,000 each", 2).due(1, "load", 0, 1).due(2, "load", 1, 1000000)
            .dueForEach(new int[] {-1, 1000001, MIN, MAX}, 1, -1, "load", 0, 1).due(-5, "rounds", 999999)
            .due(0, "rounds", 1000000);
    }

    private static void loadNoneAnyMore() {
        bank("load (0: none any more)", 3).due(0, "load", 0, 0).due(1, "load", 0, 5).due(1, "load", 0, 6)
            .due(2, "load", 2, 5).due(1, "load", 0, 0).due(1, "load", 0, 0).due(0, "rounds", 5).due(2, "stop", 0)
            .due(0, "load", 2, 0).due(-4, "rounds", 5);
    }

    private static void loadsToTheEighth() {
        Bank b = bank("load: -5 eight have", 12);
        for (int i = 0; i < 8; i++) {
            b.due(i + 1, "load", 11 - i, 5);
        }
        b.due(-5, "load", 3, 5).due(-5, "load", 0, 1).due(8, "load", 4, 6).due(8, "load", 3, 0).due(7, "load", 11, 0);
        b.due(8, "load", 0, 1000000).due(-5, "load", 11, 5);
    }

    private static void loadsThatAreRefusedChangeNothing() {
        Bank b = loaded("load that is REFUSED", 8).did("table").due(-5, "load", 8, 4).due(-1, "load", 0, 1000001);
        b.due(-1, "load", 0, -1).due(-2, "load", 9, 3).due(0, "rounds", 1).due(15, "stop", -1).due(7, "stop", 14);
        b.due(7, "load", 7, 0).due(8, "load", 8, 1);
    }

    private static void capFromTo() {
        loaded("CAP (1 .. 10,000,000)", 1).due(0, "rounds", 1).due(0, "rounds", 10000000)
            .dueForEach(new int[] {0, -1, 10000001, MIN, MAX}, 0, -1, "rounds", 1);
    }

    private static void noLoads() {
        bank("rounds: -4 no LOADS", 12).due(-4, "rounds", 1).due(-4, "rounds", 10000000).due(-1, "stop", -1)
            .did("load", 0, 1).did("load", 0, 0).due(-4, "rounds", 1).due(-1, "stop", -1).due(-1, "stop", 0);
    }

    private static void aboveCap() {
        Bank b = bank("rounds: -5 one is above CAP", 3).did("load", 0, 5).did("load", 2, 7).due(-5, "rounds", 6);
        b.due(-1, "stop", -1).due(-5, "rounds", 1).due(0, "rounds", 7).did("load", 2, 5).due(-5, "rounds", 4);
        b.due(0, "rounds", 5).did("load", 0, 6).due(-5, "rounds", 5);
    }

    private static void togetherNoMoreThanCap() {
        Bank b = bank("rounds of no more than CAP together", 2).did("load", 0, 5).did("load", 1, 7);
        b.due(0, "rounds", 12);
        row(b, 0, 1);
        b.due(0, "rounds", 11);
        row(b, 0, HOUSE, 1);
        Bank c = bank("eight LOADS of a million together", 8);
        for (int i = 0; i < 8; i++) {
            c.did("load", i, 1000000);
        }
        c.due(0, "rounds", 8000000);
        row(c, 0, 1, 2, 3, 4, 5, 6, 7);
        c.due(0, "rounds", 7999999);
        row(c, 0, 1, 2, 3, 4, 5, 6, HOUSE, 7);
        c.due(0, "rounds", 1000000).due(15, "stop", -1);
    }

    private static void loadsStay() {
        Bank b = loaded("LOADS stay", 2).due(0, "rounds", 2).due(0, "rounds", 1);
        row(b, 0, HOUSE, 1);
        b.due(0, "rounds", 2);
        row(b, 0, 1);
        b.due(2, "load", 0, 1);
    }

    private static void refusedRoundsKeepTheLatest() {
        Bank b = loaded("kept as the latest", 2).did("load", 1, 3).due(0, "rounds", 3).due(-1, "rounds", 0);
        row(b, 0, HOUSE, 1);
        b.due(-5, "rounds", 2);
        row(b, 0, HOUSE, 1);
        b.did("load", 0, 0).did("road", 12, 1, 5).did("load", 1, 0).due(-4, "rounds", 3);
        row(b, 0, HOUSE, 1);
        b.did("load", 1, 1).due(10, "rounds", 3);
        row(b, 1);
    }

    private static Bank triangle(String sentence, int between) {
        return loaded(sentence, 2).did("road", 12, 0, 3).did("road", 12, 1, 4).did("road", 0, 1, between);
    }

    private static void leastMinutes() {
        Bank b = triangle("the least sum of MINUTES", 6).due(13, "rounds", 2);
        row(b, 0, 1);
        Bank c = triangle("two rounds, if they are a minute less", 8).due(14, "rounds", 2);
        row(c, 0, HOUSE, 1);
    }

    private static void fewestRounds() {
        Bank b = triangle("of all such the fewest rounds", 7).due(14, "rounds", 2);
        row(b, 0, 1);
        b.due(14, "rounds", 1);
        row(b, 0, HOUSE, 1);
        Bank c = bank("the row of two rounds, though one of three comes first", 4).did("load", 0, 2).did("load", 1, 1);
        c.did("load", 2, 3).did("load", 3, 2).due(0, "rounds", 4);
        row(c, 0, 3, HOUSE, 1, 2);
    }

    private static void firstRow() {
        Bank b = loaded("of these the first, either way round", 2).did("road", 12, 0, 5).did("road", 12, 1, 5);
        b.due(10, "rounds", 2);
        row(b, 0, 1);
        Bank c = loaded("a round need not begin with its lowest", 3).did("road", 12, 0, 5).did("road", 0, 1, 1);
        c.did("road", 0, 2, 1).due(2, "rounds", 3);
        row(c, 1, 0, 2);
        Bank d = bank("rounds in the order of their lowest TABLES", 5).did("load", 0, 2).did("load", 1, 3);
        d.did("load", 2, 3).did("load", 3, 2).did("load", 4, 2).did("road", 12, 0, 5).due(0, "rounds", 6);
        row(d, 3, 0, 4, HOUSE, 1, 2);
        Bank e = bank("10 and 11 are compared as numbers", 12).did("load", 2, 1).did("load", 10, 1).did("load", 11, 1);
        e.due(0, "rounds", 3);
        row(e, 2, 10, 11);
        e.due(0, "rounds", 2);
        row(e, 2, 10, HOUSE, 11);
    }

    private static void stopsFromTo() {
        Bank b = loaded("stop: NONE without", 2).due(-1, "stop", -1).due(-1, "stop", 0).due(-1, "stop", 1).did("rounds", 1);
        row(b, 0, HOUSE, 1);
        b.dueForEach(new int[] {-2, 3, 4, 14, 15, 16, MIN, MAX}, 0, -1, "stop", 0);
        b.did("rounds", 2);
        row(b, 0, 1);
        b.due(-1, "stop", 2).did("load", 0, 0).did("rounds", 1);
        row(b, 1);
        b.due(-1, "stop", 1).due(-1, "stop", 2);
    }

    private static void mostStops() {
        Bank b = bank("eight rounds have fifteen stops", 12);
        for (int i = 4; i < 12; i++) {
            b.did("load", i, 2);
        }
        b.due(0, "rounds", 3);
        row(b, 4, HOUSE, 5, HOUSE, 6, HOUSE, 7, HOUSE, 8, HOUSE, 9, HOUSE, 10, HOUSE, 11);
        b.due(-1, "stop", 15).due(-1, "stop", 16);
    }

    private static void farthest() {
        Bank b = loaded("as far as can be", 8);
        for (int i = 0; i < 8; i++) {
            b.did("road", 12, i, 600);
            for (int j = 0; j < i; j++) {
                b.did("road", i, j, 600);
            }
        }
        b.due(9600, "rounds", 1).due(5400, "rounds", 8).due(6000, "rounds", 4).due(9, "stop", -1);
        row(b, 0, 1, 2, 3, HOUSE, 4, 5, 6, 7);
    }
}

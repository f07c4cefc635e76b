/** Promise 28: status. */
public final class StatusTest {
    private static final Check check = new Check("StatusTest");

    public static void main(String[] args) {
        askingLeavesIt(0);
        askingLeavesIt(-1);
        eachCallTellsIt();
        check.end();
    }

    private static void askingLeavesIt(int due) {
        FoodShares x = new FoodShares();
        if (due != 0) {
            x.go(0);
        }
        long[] asked = {x.lot(9, 9), x.allowed(9, 9), x.need(9, 9), x.of(9, 9), x.got(9, 9), x.stop(9), x.end(9),
            x.fault(), x.given(99, 9), x.led(99, 9), x.count(99)};
        for (long answer : asked) {
            check.due("NONE", answer, -1);
        }
        check.due("status()", x.status(), due);
        check.due("status() again", x.status(), due);
        for (int i = 0; i < 21; i++) {
            x.feed(0, 0, 0, 0, 0);
            check.due("status() behind feed", x.status(), due);
        }
        x.end(0);
        check.due("status() behind end", x.status(), due);
    }

    private static void told(FoodShares x, String call, int answer, int refused) {
        check.due(call, answer, refused);
        check.due("status() behind " + call, x.status(), refused);
        x.contents(0, 0);
        check.due("status() behind one that was not refused", x.status(), 0);
    }

    private static void wasTaken(FoodShares x, String call, int answer, int due) {
        check.due(call, answer, due);
        check.due("status() behind " + call, x.status(), 0);
        x.contents(-1, 0);
        check.due("status() behind one that was refused", x.status(), -1);
    }

    private static void eachCallTellsIt() {
        FoodShares x = new FoodShares();
        told(x, "contents", x.contents(10, 0), -1);
        told(x, "gift", x.gift(10, 1, 1, 1), -1);
        told(x, "family", x.family(0, 1, 1), -2);
        told(x, "refer", x.refer(0, 1, 1, 1), -2);
        told(x, "parcel", x.parcel(0), -2);
        told(x, "go", x.go(61), -1);
        told(x, "want", x.want(0, 0, 0), -2);
        told(x, "part", x.part(0), -4);
        told(x, "road", x.road(1, 1, 1), -1);
        told(x, "load", x.load(0, 1), -2);
        told(x, "rounds", x.rounds(1), -4);
        told(x, "weigh", x.weigh(0, 1, 1), -2);
        x.feed(0, 0, 0, 0, 0);
        told(x, "rules", x.rules(), -6);
        x.contents(-1, 0);
        wasTaken(x, "contents", x.contents(1, 1), 0);
        wasTaken(x, "gift", x.gift(0, 1, 1, 1), 0);
        wasTaken(x, "table", x.table(), 0);
        wasTaken(x, "family", x.family(0, 1, 1), 0);
        wasTaken(x, "refer", x.refer(0, 0, 1, 1), 1);
        told(x, "parcel", x.parcel(0), -4);
        Check.tape(x, "need 0 1");
        x.contents(-1, 0);
        wasTaken(x, "rules", x.rules(), 1);
        wasTaken(x, "parcel", x.parcel(0), 0);
        told(x, "parcel", x.parcel(0), -3);
        x.contents(-1, 0);
        wasTaken(x, "want", x.want(0, 0, 5), 0);
        x.gift(0, 3, 9, 0);
        x.contents(-1, 0);
        wasTaken(x, "part", x.part(0), 3);
        wasTaken(x, "road", x.road(0, 12, 4), 0);
        wasTaken(x, "load", x.load(0, 5), 1);
        wasTaken(x, "rounds", x.rounds(5), 8);
        told(x, "rounds", x.rounds(4), -5);
        x.contents(-1, 0);
        wasTaken(x, "weigh", x.weigh(0, 1, 1), 1);
        wasTaken(x, "go", x.go(1), 1);
        for (int i = 1; i < 12; i++) {
            x.table();
        }
        told(x, "table", x.table(), -5);
    }
}

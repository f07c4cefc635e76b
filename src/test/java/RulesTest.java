/** Promises 20 to 23: feed, end, rules, fault. */
public final class RulesTest {
    private static final Check check = new Check("RulesTest");

    public static void main(String[] args) {
        feed();
        end();
        good();
        faults();
        mostRules();
        kept();
        tapeIsEmptied();
        check.end();
    }

    private static void feed() {
        FoodShares x = new FoodShares();
        for (int i = 1; i <= 20; i++) {
            check.due("feed", x.feed(0, -1, 1, 2, 3), 20 * i);
        }
        check.due("feed beyond 400", x.feed(0, 0, 0, 0, 0), -1);
        check.due("count(14)", x.count(14), 400);
        x.end(381);
        check.due("feed at 381", x.feed(0, 0, 0, 0, 0), -1);
        x.end(380);
        check.due("feed at 380", x.feed(0, 0, 0, 0, 0), 400);
        check.due("status() is left", x.status(), 0);
        FoodShares y = new FoodShares();
        // "spar" "e 9 " "5   " and eight blanks: the highest byte of a number comes first.
        y.feed(0x73706172, 0x65203920, 0x35202020, 0x20202020, 0x20202020);
        check.due("rules()", y.rules(), 1);
        y.feed(0x73706172, 0x65203920, 0x35802020, 0x20202020, 0x20202020);
        check.due("rules() with a byte above 127", y.rules(), -6);
        check.due("fault()", y.fault(), 9);
    }

    private static void end() {
        FoodShares x = new FoodShares();
        check.due("end(0)", x.end(0), 0);
        check.due("end(1)", x.end(1), -1);
        check.due("end(-1)", x.end(-1), -1);
        x.feed(0, 0, 0, 0, 0);
        check.due("end(21)", x.end(21), -1);
        check.due("end(20)", x.end(20), 20);
        check.due("end(7)", x.end(7), 7);
        check.due("end(8)", x.end(8), -1);
        check.due("count(14)", x.count(14), 7);
        check.due("end(min)", x.end(Integer.MIN_VALUE), -1);
        check.due("end(max)", x.end(Integer.MAX_VALUE), -1);
    }

    private static void reads(String text, int rules) {
        FoodShares x = new FoodShares();
        check.due("rules() of '" + text + "'", Check.rules(x, text), rules);
        check.due("fault() of '" + text + "'", x.fault(), -1);
        check.due("status() of '" + text + "'", x.status(), 0);
        check.due("count(6) of '" + text + "'", x.count(6), rules);
        check.due("count(14) of '" + text + "'", x.count(14), 0);
    }

    private static void good() {
        reads("", 0);
        reads(" ", 0);
        reads("                         ", 0);
        reads("need 0 0", 1);
        reads("need 9 100000", 1);
        reads("need 9 100000 above 12", 1);
        reads("need 9 1 above 0", 1);
        reads("need9 1above2;spare3 4;swap5for6", 3);
        reads("  need   9  1  above  2  ;  spare  3  4  ;  swap  5  for  6  ", 3);
        reads("spare 0 0", 1);
        reads("spare 9 1000;swap 0 for 9", 2);
        reads("need 0 0000000000000000000000000000000100000", 1);
        reads("need 07 1", 1);
    }

    private static void fails(String text, int place) {
        FoodShares x = new FoodShares();
        check.due("rules() of '" + text + "'", Check.rules(x, text), -6);
        check.due("fault() of '" + text + "'", x.fault(), place);
        check.due("status() of '" + text + "'", x.status(), -6);
        check.due("count(6) of '" + text + "'", x.count(6), 0);
        check.due("count(14) of '" + text + "'", x.count(14), 0);
    }

    private static void faults() {
        fails(";", 0);
        fails("  ;", 2);
        fails("x", 0);
        fails("needs 1 1", 0);
        fails("nee 1 1", 0);
        fails("Need 1 1", 0);
        fails("need", 4);
        fails("need  ", 6);
        fails("need x", 5);
        fails("need 10 5", 5);
        fails("need 5", 6);
        fails("need 5 100001", 7);
        fails("need 5 99999999999999999999", 7);
        fails("need 5 4294967296", 7);
        fails("need 5 -1", 7);
        fails("need 5 1 1", 9);
        fails("need 5 1 abov 1", 9);
        fails("need 5 1 aboves 1", 9);
        fails("need 5 1 above", 14);
        fails("need 5 1 above 13", 15);
        fails("need 5 1 above 1 above 1", 17);
        fails("need 5 1;", 9);
        fails("need 5 1; ", 10);
        fails("need 5 1;;need 5 1", 9);
        fails("need 5 1 need 5 1", 9);
        fails("need\t5 1", 4);
        fails("need 5 1\n", 8);
        fails("spare", 5);
        fails("spare 10 1", 6);
        fails("spare 1 1001", 8);
        fails("spare 1 1 above 1", 10);
        fails("spare for", 6);
        fails("swap 10 for 1", 5);
        fails("swap 1 to 2", 7);
        fails("swap 1 2", 7);
        fails("swap 1 for", 10);
        fails("swap 1 for 10", 11);
        fails("swap 1 for x", 11);
        fails("swap 3 for 3", 11);
        fails("swap 3 for 03", 11);
        fails("swap 3 for 3 3", 11);
        fails("swap 3 for 4 above 1", 13);
        fails("need 1 1;swap 3 for 4;spare 2 x", 30);
        fails("need 1 1\u0000", 8);
        fails("\u00ff", 0);
        fails("needz 1 1", 0);
        fails("aneed 1 1", 0);
        fails("need{1 1", 4);
        fails("need`1 1", 4);
        fails("need 1 1/", 8);
        fails("need 1 1:", 8);
        fails("need 1 1z", 8);
    }

    private static String times(int n) {
        StringBuilder text = new StringBuilder("need0 1");
        for (int i = 1; i < n; i++) {
            text.append(";need0 1");
        }
        return text.toString();
    }

    private static void mostRules() {
        reads(times(30), 30);
        fails(times(31), 240);
        fails(times(30) + " ; x", 242);
        fails(times(30) + "  ;  ", 244);
        fails(times(30) + "x", 239);
        fails(times(49), 240);
        StringBuilder blanks = new StringBuilder("need 0 1");
        while (blanks.length() < 400) {
            blanks.append(' ');
        }
        reads(blanks.toString(), 1);
        blanks.setCharAt(399, 'x');
        fails(blanks.toString(), 399);
    }

    private static void kept() {
        FoodShares x = Check.withTables(1);
        x.family(0, 2, 0);
        check.due("rules()", Check.rules(x, "need 4 10"), 1);
        check.due("rules() that fail late", Check.rules(x, "need 4 99; need 4 77;"), -6);
        check.due("they stay", x.need(0, 4), 20);
        check.due("count(6)", x.count(6), 1);
        check.due("fault()", x.fault(), 21);
        check.due("fault() again", x.fault(), 21);
        check.due("rules()", Check.rules(x, "need 4 1; need 4 2"), 2);
        check.due("they are told anew", x.need(0, 4), 6);
        check.due("fault() of the latest", x.fault(), -1);
        check.due("rules() of blanks", Check.rules(x, "   "), 0);
        check.due("none", x.need(0, 4), 0);
        check.due("count(6)", x.count(6), 0);
    }

    private static void tapeIsEmptied() {
        FoodShares x = new FoodShares();
        Check.tape(x, "need ");
        Check.tape(x, "1 5;spare 1 2");
        check.due("fed in two pieces", x.rules(), 2);
        check.due("the tape is empty", x.rules(), 0);
        Check.tape(x, "x");
        check.due("rules()", x.rules(), -6);
        check.due("count(14)", x.count(14), 0);
        check.due("fault()", x.fault(), 0);
        check.due("end(1)", x.end(1), -1);
        check.due("fault() is left", x.fault(), 0);
        check.due("feed", x.feed(0x20202020, 0x20202020, 0x20202020, 0x20202020, 0x20202020), 20);
        check.due("rules()", x.rules(), 0);
    }
}

import java.util.List;

/** Where Term II and promises 20 to 23 name a boundary: the TAPE, TOKENS, RULES, FAULT. */
public final class TextEdgesTest {
    private static final int MIN = Integer.MIN_VALUE;
    private static final int MAX = Integer.MAX_VALUE;
    private static final int BLANKS = 0x20202020;
    private static final String[] TOKENS = {"need", "spare", "swap", "above", "for", ";", "x", "0", "101000", "-"};
    private static final Check check = new Check("TextEdgesTest");

    public static void main(String[] args) {
        feedToTheLastByte();
        feedThatIsNoneLeavesTheTape();
        feedHighestFirst();
        endOfSoMany();
        endBelowNothing();
        endCutsForGood();
        rulesEmptyTheTape();
        rulesOfBlanks();
        rulesThatAreRefusedStay();
        nothingStaysOfOlderRules();
        faultOfTheLatest();
        textOfFourHundred();
        onlyBlanksAreBlanks();
        blanksAnywhere();
        tokensAreLongestRows();
        lettersAndDigitsAlone();
        numbersToTheLast();
        numbersThatWrapAround();
        zeros();
        eachTokenInItsPlace();
        eachTokenMissing();
        behindARule();
        likeKinds();
        thirtyRules();
        check.end();
    }

    private static Bank bank(String sentence) {
        return new Bank(check, sentence);
    }

    private static String shown(String text) {
        return text.length() > 60 ? text.substring(0, 60) + ".. (" + text.length() + ")" : text;
    }

    private static void reads(String text, int rules) {
        bank("RULES '" + shown(text) + "'").tape(text).due(rules, "rules").due(-1, "fault").due(rules, "count", 6)
            .due(0, "count", 14);
    }

    private static void fails(String text, int place) {
        bank("FAULT in '" + shown(text) + "'").tape(text).due(-6, "rules").due(place, "fault").due(0, "count", 6)
            .due(0, "count", 14);
    }

    private static void feedToTheLastByte() {
        Bank b = bank("feed: NONE, if there would be more than 400").did(19, "feed", 0, 0, 0, 0, 0);
        b.due(400, "feed", 0, 0, 0, 0, 0).due(-1, "feed", 0, 0, 0, 0, 0).due(400, "count", 14);
        b.due(399, "end", 399).due(-1, "feed", 0, 0, 0, 0, 0).due(381, "end", 381).due(-1, "feed", 0, 0, 0, 0, 0);
        b.due(380, "end", 380).due(400, "feed", 0, 0, 0, 0, 0).due(0, "end", 0).due(20, "feed", 0, 0, 0, 0, 0);
        bank("feed: how many it has").due(20, "feed", 1, 2, 3, 4, 5).due(1, "end", 1).due(21, "feed", MIN, MAX, -1, 0, 1);
    }

    private static void feedThatIsNoneLeavesTheTape() {
        Bank b = bank("feed that is NONE adds nothing").did(20, "feed", BLANKS, BLANKS, BLANKS, BLANKS, BLANKS);
        b.due(381, "end", 381).due(-1, "feed", 0, 0, 0, 0, 0).due(381, "count", 14).due(0, "rules").due(-1, "fault");
    }

    private static void feedHighestFirst() {
        // "spar" "e 9 " "5   " and blanks
        bank("four of each number, the highest first").due(20, "feed", 0x73706172, 0x65203920, 0x35202020, BLANKS, BLANKS)
            .due(1, "rules");
        int[][] places = {{0, 0x78202020}, {1, 0x20782020}, {2, 0x20207820}, {3, 0x20202078}, {0, 0x80202020},
            {1, 0x20802020}, {2, 0x20208020}, {3, 0x20202080}, {0, -1}, {0, MIN}, {0, 0}};
        for (int number = 0; number < 5; number++) {
            for (int[] place : places) {
                int[] five = {BLANKS, BLANKS, BLANKS, BLANKS, BLANKS};
                five[number] = place[1];
                bank("the number " + number + " as " + place[1]).due(20, "feed", five).due(-6, "rules")
                    .due(4 * number + place[0], "fault");
            }
        }
    }

    private static void endOfSoMany() {
        bank("end: NONE, if it has not so many").due(-1, "end", 1).due(0, "end", 0).did("feed", 0, 0, 0, 0, 0)
            .due(-1, "end", 21).due(-1, "end", 400).due(-1, "end", 401).due(-1, "end", MAX).due(20, "count", 14)
            .due(20, "end", 20).due(19, "end", 19).due(-1, "end", 20).due(19, "count", 14).due(0, "end", 0)
            .due(-1, "end", 1);
        bank("end of all 400").did(20, "feed", 0, 0, 0, 0, 0).due(-1, "end", 401).due(400, "end", 400);
    }

    private static void endBelowNothing() {
        bank("end: NONE, if n is below 0").due(-1, "end", -1).did("feed", 0, 0, 0, 0, 0).due(-1, "end", -1)
            .due(-1, "end", MIN).due(20, "count", 14);
    }

    private static void endCutsForGood() {
        bank("its first n bytes alone").tape("need 0 1xyz").due(8, "end", 8).tape("5").due(9, "count", 14)
            .did("table").did("family", 0, 1, 0).due(1, "rules").due(15, "need", 0, 0);
    }

    private static void rulesEmptyTheTape() {
        bank("the TAPE is empty then").tape("need 0 1").due(1, "rules").due(0, "count", 14).due(-1, "end", 1)
            .due(20, "feed", BLANKS, BLANKS, BLANKS, BLANKS, BLANKS);
        bank("the TAPE is empty then, also at -6").tape("need 0 1 x").due(-6, "rules").due(0, "count", 14)
            .due(-1, "end", 1).tape("need 0 1").due(1, "rules");
        bank("the TAPE is empty then, all 400 of it").did(20, "feed", 0, 0, 0, 0, 0).due(-6, "rules")
            .due(20, "feed", BLANKS, BLANKS, BLANKS, BLANKS, BLANKS).due(0, "rules");
    }

    private static void rulesOfBlanks() {
        reads("", 0);
        reads(" ", 0);
        reads(" ".repeat(400), 0);
        bank("blanks alone: none").did("table").did("family", 0, 1, 0).rules("need 0 5").due(5, "need", 0, 0).tape(" ")
            .due(0, "rules").due(0, "count", 6).due(0, "need", 0, 0);
        bank("an empty TAPE: none").did("table").did("family", 0, 1, 0).rules("need 0 5").due(0, "rules")
            .due(0, "count", 6).due(0, "need", 0, 0);
    }

    private static void rulesThatAreRefusedStay() {
        String[] wrong = {"x", "need 0 7;", "need 0 7; need 0 7; x", "need 0 100001", "swap 0 for 0"};
        for (String text : wrong) {
            Bank b = bank("-6: they stay").did("table").did("family", 0, 1, 0).rules("need 0 5; need 1 6");
            b.tape(text).due(-6, "rules").due(2, "count", 6).due(5, "need", 0, 0).due(6, "need", 0, 1);
            b.tape("need 1 9").due(1, "rules").due(0, "need", 0, 0).due(9, "need", 0, 1);
        }
    }

    private static Bank hungry(String sentence) {
        return bank(sentence).did("table").did("family", 0, 1, 0).did("refer", 0, 0, 9, 20).did("gift", 0, 5, 5, 0)
            .did("gift", 1, 5, 5, 0);
    }

    /** Fewer RULES behind more, with others, none or refused ones between. */
    private static void nothingStaysOfOlderRules() {
        nothingStays(" ", 0);
        nothingStays("need 3 1", 1);
        nothingStays("need 3 1; x", -6);
        nothingStays("need 3 1; need 3 1; x", -6);
    }

    private static void nothingStays(String between, int answer) {
        hungry("of older \"need\" RULES nothing stays").rules("need 0 7; need 0 8").tape(between).due(answer, "rules")
            .rules("need 0 2").due(2, "need", 0, 0);
        hungry("of older \"spare\" RULES nothing stays").rules("need 0 7; spare 0 9").tape(between).due(answer, "rules")
            .rules("need 0 2").due(0, "parcel", 0);
        hungry("of older \"swap\" RULES nothing stays").rules("need 0 7; swap 1 for 0").tape(between)
            .due(answer, "rules").rules("need 0 7").due(0, "parcel", 0).due(1, "of", 0, 2).due(2, "of", 0, 4);
    }

    private static void faultOfTheLatest() {
        bank("FAULT of the latest rules()").due(-1, "fault").tape("x").due(-6, "rules").due(0, "fault").tape(" x")
            .due(0, "fault").due(-1, "end", 9).due(0, "fault").due(-6, "rules").due(1, "fault").due(1, "fault")
            .due(0, "rules").due(-1, "fault").tape("need").due(-6, "rules").due(4, "fault").tape("need 0 1")
            .due(1, "rules").due(-1, "fault");
    }

    private static void textOfFourHundred() {
        reads(" ".repeat(392) + "need 0 1", 1);
        reads("need 0 1" + " ".repeat(392), 1);
        fails(" ".repeat(399) + "x", 399);
        fails("need 0 1" + " ".repeat(391) + ";", 400);
        fails(" ".repeat(396) + "need", 400);
        fails("need" + " ".repeat(396), 400);
        reads("need 0 " + "0".repeat(392) + "1", 1);
        fails("need 0 " + "9".repeat(393), 7);
        fails("a".repeat(400), 0);
        fails(";".repeat(400), 0);
        reads("spare" + "0".repeat(393) + " 1", 1);
    }

    private static void onlyBlanksAreBlanks() {
        int[] others = {0, 1, 9, 10, 11, 12, 13, 31, 33, 127, 128, 160, 255};
        for (int other : others) {
            char single = (char) other;
            fails("need" + single + "0 1", 4);
            fails("need 0 1" + single, 8);
            fails(single + "need 0 1", 0);
        }
    }

    private static void blanksAnywhere() {
        reads("need0 1", 1);
        reads("need0 1above2", 1);
        reads("need0 1;spare0 1;swap0for1", 3);
        reads("  need  0  1  above  2  ;  spare  0  1  ;  swap  0  for  1  ", 3);
        fails("ne ed 0 1", 0);
        fails("need 0 1 ab ove 2", 9);
        fails("need 1 0 0", 9);
    }

    private static void tokensAreLongestRows() {
        fails("need15", 4);
        fails("need01", 6);
        fails("needneed 0 1", 0);
        fails("swap 0 fors 1", 7);
        fails("swap 0 fo 1", 7);
        fails("need 0 1aboveabove 2", 8);
        fails("need 0 1;;", 9);
        fails("need 0 1above1above1", 14);
        fails("nee", 0);
        fails("need0 1spare0 1", 7);
    }

    private static void lettersAndDigitsAlone() {
        String[] others = {"`", "{", "A", "Z", "_", "-", "+", ".", ",", "/", ":", "@", "[", "\u00e9", "\u00b2"};
        for (String other : others) {
            fails(other, 0);
            fails("need" + other + " 0 1", 4);
            fails("need " + other + "0 1", 5);
            fails("need 0" + other + " 1", 6);
            fails("need 0 1" + other, 8);
        }
        fails("NEED 0 1", 0);
        fails("Need 0 1", 0);
        fails("needz 0 1", 0);
        fails("needa 0 1", 0);
        fails("zneed 0 1", 0);
        fails("aneed 0 1", 0);
        fails("need 0 19a", 9);
    }

    private static void numbersToTheLast() {
        reads("need 0 0", 1);
        reads("need 9 100000", 1);
        fails("need 10 1", 5);
        fails("need 0 100001", 7);
        reads("need 0 1 above 0", 1);
        reads("need 0 1 above 12", 1);
        fails("need 0 1 above 13", 15);
        reads("spare 0 0", 1);
        reads("spare 9 1000", 1);
        fails("spare 10 1", 6);
        fails("spare 0 1001", 8);
        reads("swap 0 for 9", 1);
        reads("swap 9 for 0", 1);
        fails("swap 10 for 0", 5);
        fails("swap 0 for 10", 11);
    }

    private static void numbersThatWrapAround() {
        String[] wraps = {"4294967296", "4294967297", "2147483648", "18446744073709551616", "18446744073709551617",
            "10000000000", "99999999999999999999999999", "340282366920938463463374607431768211457"};
        for (String number : wraps) {
            fails("need " + number + " 1", 5);
            fails("need 0 " + number, 7);
            fails("need 0 1 above " + number, 15);
            fails("spare " + number + " 1", 6);
            fails("spare 0 " + number, 8);
            fails("swap " + number + " for 1", 5);
            fails("swap 2 for " + number, 11);
        }
    }

    private static void zeros() {
        Bank b = bank("zeros ahead of a number").did("table").did("family", 0, 2, 0);
        b.rules("need 07 00000000000000012 above 001").due(24, "need", 0, 7);
        fails("need 010 1", 5);
        fails("need 0 0100001", 7);
    }

    /** Where a TOKEN of a whole RULE gives way to another that can't go on there, FAULT is its place. */
    private static void eachTokenInItsPlace() {
        String[] rules = {"need 3 40 above 5", "need 3 40", "spare 3 40", "swap 3 for 4"};
        for (String rule : rules) {
            String[] tokens = rule.split(" ");
            for (int i = 0; i < tokens.length; i++) {
                for (String wrong : TOKENS) {
                    if (canStandFor(tokens, i, wrong)) {
                        continue;
                    }
                    String[] changed = tokens.clone();
                    changed[i] = wrong;
                    String ahead = String.join(" ", List.of(changed).subList(0, i));
                    int place = ahead.isEmpty() ? 0 : ahead.length() + 1;
                    fails(String.join(" ", changed), place);
                    fails("spare 1 1 ;" + String.join(" ", changed), 11 + place);
                }
            }
        }
    }

    private static boolean canStandFor(String[] tokens, int i, String other) {
        if (i == 0) {
            // Where the first TOKEN is that of another RULE, the FAULT is further on.
            return List.of("need", "spare", "swap").contains(other);
        }
        if (tokens[i].equals("above")) {
            return other.equals("above") || other.equals(";");
        }
        return tokens[i].equals(other) || Character.isDigit(tokens[i].charAt(0)) && other.equals("0");
    }

    /** Where a RULE ends too early, FAULT is the TEXT's length, or the ";" there. */
    private static void eachTokenMissing() {
        String[] cut = {"need", "need 3", "need 3 40 above", "spare", "spare 3", "swap", "swap 3", "swap 3 for",
            "need 3 40;", "spare 3 4;", "swap 3 for 4;", "need 3 40 above 5;"};
        for (String text : cut) {
            fails(text, text.length());
            fails(text + "   ", text.length() + 3);
            fails("  " + text + " ", text.length() + 3);
            fails(text + ";", text.length());
            fails(text + " ; need 0 1", text.length() + 1);
        }
    }

    private static void behindARule() {
        String[] rules = {"need 3 40", "need 3 40 above 5", "spare 3 40", "swap 3 for 4"};
        String[] behind = {"need", "spare", "swap", "for", "x", "7", "-", ",", ":"};
        for (String rule : rules) {
            reads(rule, 1);
            reads(rule + ";" + rule, 2);
            for (String token : behind) {
                fails(rule + " " + token, rule.length() + 1);
            }
            if (!rule.equals("need 3 40")) {
                fails(rule + " above 1", rule.length() + 1);
            }
        }
    }

    private static void likeKinds() {
        for (int kind = 0; kind <= 9; kind++) {
            fails("swap " + kind + " for " + kind, 11);
            fails("swap " + kind + "for  0" + kind + " x", 11);
            reads("swap " + kind + " for " + (kind + 1) % 10, 1);
        }
        reads("swap 1 for 2; swap 2 for 1", 2);
    }

    private static void thirtyRules() {
        String[] rules = {"need0 1", "spare0 1", "swap0for1", "need0 1 above 1"};
        for (String rule : rules) {
            reads((rule + ";").repeat(9) + rule, 10);
        }
        for (String rule : List.of("need0 1", "spare0 1", "swap0for1")) {
            String thirty = (rule + ";").repeat(29) + rule;
            reads(thirty, 30);
            fails(thirty + " ; " + rule, thirty.length() + 3);
            fails(thirty + ";", thirty.length() + 1);
            fails(thirty + "; ", thirty.length() + 2);
            fails(thirty + ";x", thirty.length() + 1);
            fails(thirty + " x;" + rule, thirty.length() + 1);
        }
        String mixed = "need0 1;spare0 1;swap0for1;".repeat(10);
        reads(mixed.substring(0, mixed.length() - 1), 30);
        fails(mixed + "spare0 1", mixed.length());
        fails(mixed + "need x", mixed.length());
        Bank b = bank("all 30 of them hold").did("table").did("family", 0, 1, 0);
        b.rules("need0 1;".repeat(28) + "need1 1;need2 1").due(28, "need", 0, 0).due(1, "need", 0, 1).due(1, "need", 0, 2);
        b.tape("need0 2;".repeat(30) + "need0 2").due(-6, "rules").due(240, "fault").due(28, "need", 0, 0);
    }
}

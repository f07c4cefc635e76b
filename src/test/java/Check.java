/** Counts and prints the answers that are not as due. */
final class Check {
    private final String name;
    private int asked = 0;
    private int wrong = 0;

    Check(String name) {
        this.name = name;
    }

    void due(String call, long got, long want) {
        asked++;
        if (got != want) {
            wrong++;
            System.out.println(name + ": " + call + " answered " + got + ", due is " + want);
        }
    }

    void due(String what, boolean holds) {
        asked++;
        if (!holds) {
            wrong++;
            System.out.println(name + ": " + what);
        }
    }

    void end() {
        System.out.println(name + ": " + asked + " asked, " + wrong + " wrong");
        if (wrong != 0 || asked == 0) {
            System.exit(1);
        }
    }

    /** Puts a text (characters 0 .. 255) behind the TAPE. */
    static void tape(FoodShares x, String text) {
        int before = (int) x.count(14);
        int[] five = new int[5];
        for (int from = 0; from < text.length(); from += 20) {
            for (int i = 0; i < 20; i++) {
                int single = from + i < text.length() ? text.charAt(from + i) : ' ';
                five[i / 4] = five[i / 4] << 8 | single;
            }
            x.feed(five[0], five[1], five[2], five[3], five[4]);
        }
        x.end(before + text.length());
    }

    static int rules(FoodShares x, String text) {
        tape(x, text);
        return x.rules();
    }

    /** A new object with so many TABLES. */
    static FoodShares withTables(int tables) {
        FoodShares x = new FoodShares();
        for (int i = 0; i < tables; i++) {
            x.table();
        }
        return x;
    }
}

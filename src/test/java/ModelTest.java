import java.util.Random;

/** Promises 1 to 28 together: runs of up to 512 calls, each answered as the plain model answers. */
public final class ModelTest {
    private static final int RUNS = 600;
    private static final int CALLS = 512;
    private static final int[] EDGES = {Integer.MIN_VALUE, -2, -1, 0, 1, 8, 9, 10, 11, 12, 13, 19, 20, 29, 30, 39, 40,
        60, 61, 99, 100, 199, 200, 255, 256, 399, 400, 401, 500, 501, 600, 601, 1000, 1001, 100000, 100001, 1000000,
        1000001, 10000000, 10000001, Integer.MAX_VALUE};
    private static final String[] WORDS = {"need", "spare", "swap", "for", "above", ";", "1", "2", "10", "12", "13",
        "1000", "1001", "100001", "x", "-"};
    private static final Check check = new Check("ModelTest");

    private final Random random;
    private final FoodShares x = new FoodShares();
    private final PlainModel m = new PlainModel();
    private final String run;
    private final boolean crowded;

    private ModelTest(int seed) {
        random = new Random(seed);
        run = "run " + seed + ": ";
        crowded = seed % 3 == 0;
    }

    public static void main(String[] args) {
        for (int seed = 0; seed < RUNS; seed++) {
            ModelTest test = new ModelTest(seed);
            for (int call = 0; call < CALLS / 2; call++) {
                test.call(test.random.nextInt(34));
                check.due(test.run + "status()", test.x.status(), test.m.status);
            }
            test.compareAll();
        }
        check.end();
    }

    /** Most often one that can be, now and then one at the edges of what can be. */
    private int pick(int low, int high) {
        if (random.nextInt(40) == 0) {
            return EDGES[random.nextInt(EDGES.length)];
        }
        return low + random.nextInt(Math.max(1, high - low + 1));
    }

    private int grams(int most) {
        return random.nextInt(20) == 0 ? pick(0, most) : pick(0, 60);
    }

    private int kind() {
        return pick(0, random.nextBoolean() ? 2 : 9);
    }

    private int day() {
        return random.nextInt(9) == 0 ? pick(0, 1000) : m.today + pick(-1, 9);
    }

    private void due(String call, long got, long want) {
        check.due(run + call, got, want);
    }

    private void call(int which) {
        int a = kind();
        int b = grams(1000);
        int c = day();
        int d = pick(0, 4);
        switch (which) {
            case 0: due("contents", x.contents(a, d), m.contents(a, d)); break;
            case 1: case 2: case 3: case 4: case 5:
                due("gift", x.gift(a, b, c, d), m.gift(a, b, c, d)); break;
            case 6: due("table", x.table(), m.table()); break;
            case 7: case 8: family(); break;
            case 9: case 10: case 11: refer(); break;
            case 12: case 13: case 14: case 15: case 16: parcel(); break;
            case 17: go(); break;
            case 18: case 19: case 20: want(); break;
            case 21: case 22: due("part", x.part(a), m.part(a)); break;
            case 23: case 24: road(); break;
            case 25: load(); break;
            case 26: rounds(); break;
            case 27: case 28: text(); break;
            case 29: weigh(); break;
            default: ask();
        }
    }

    private int family(int more) {
        return pick(0, m.families.size() - 1 + more);
    }

    private int table() {
        return pick(0, Math.min(crowded ? 11 : 5, m.tables));
    }

    private void family() {
        int table = table();
        int heads = pick(1, 12);
        int bars = pick(0, 3);
        due("family", x.family(table, heads, bars), m.family(table, heads, bars));
    }

    private void refer() {
        int family = family(0);
        int first = Math.max(0, m.today + pick(-2, 1));
        int last = first + pick(-1, 6);
        int parcels = pick(1, 3);
        due("refer", x.refer(family, first, last, parcels), m.refer(family, first, last, parcels));
    }

    private void parcel() {
        int family = family(0);
        due("parcel", x.parcel(family), m.parcel(family));
    }

    private void go() {
        int days = random.nextInt(4) > 0 ? 1 : pick(1, 8);
        due("go", x.go(days), m.go(days));
    }

    private void want() {
        int table = table();
        int kind = kind();
        int grams = grams(1000);
        due("want", x.want(table, kind, grams), m.want(table, kind, grams));
    }

    private void road() {
        int one = pick(0, 12);
        int other = random.nextBoolean() ? 12 : pick(0, 12);
        int minutes = random.nextBoolean() ? pick(0, 4) : pick(0, 600);
        due("road", x.road(one, other, minutes), m.road(one, other, minutes));
    }

    private void load() {
        int table = table();
        int grams = random.nextInt(3) == 0 ? 0 : pick(1, 9);
        due("load", x.load(table, grams), m.load(table, grams));
    }

    private void rounds() {
        int cap = pick(1, 25);
        due("rounds", x.rounds(cap), m.rounds(cap));
        for (int i = -2; i < 17; i++) {
            due("stop(" + i + ")", x.stop(i), m.stop(i));
        }
    }

    private void text() {
        StringBuilder text = new StringBuilder();
        int most = random.nextInt(10) == 0 ? 40 : 6;
        for (int rules = 1 + random.nextInt(most); rules > 0; rules--) {
            text.append(rule()).append(rules > 1 ? ";" : "");
        }
        if (random.nextInt(4) == 0) {
            text.insert(random.nextInt(text.length() + 1), WORDS[random.nextInt(WORDS.length)]);
        }
        if (random.nextInt(8) == 0) {
            text.deleteCharAt(random.nextInt(text.length()));
        }
        feed(text.toString());
        due("rules of " + text, x.rules(), m.rules());
        due("fault of " + text, x.fault(), m.fault);
    }

    private String rule() {
        String blank = random.nextInt(5) == 0 ? "  " : " ";
        int one = random.nextInt(random.nextInt(30) == 0 ? 11 : 4);
        int other = (one + 1 + random.nextInt(random.nextInt(20) == 0 ? 4 : 3)) % 4;
        switch (random.nextInt(5)) {
            case 0: return "spare" + one + blank + random.nextInt(4);
            case 1: case 2: return "swap" + blank + one + "for" + other + (random.nextBoolean() ? blank : "");
            case 3: return "need " + one + blank + random.nextInt(20) + "above" + random.nextInt(13);
            default: return blank + "need " + one + " " + random.nextInt(random.nextInt(20) == 0 ? 100002 : 30);
        }
    }

    private void feed(String text) {
        for (int from = 0; from < text.length(); from += 20) {
            int[] f = new int[5];
            for (int i = 0; i < 20; i++) {
                f[i / 4] = f[i / 4] << 8 | (from + i < text.length() ? text.charAt(from + i) : ' ');
            }
            due("feed", x.feed(f[0], f[1], f[2], f[3], f[4]), m.feed(f));
        }
        due("end", x.end(text.length()), m.end(text.length()));
        int n = pick(m.tape.length(), 400);
        if (random.nextInt(10) == 0) {
            due("end(" + n + ")", x.end(n), m.end(n));
        }
    }

    private void weigh() {
        int lot = pick(0, m.lots.size());
        int grams = grams(1000);
        int known = random.nextBoolean() ? pick(0, 9) : pick(0, 100000);
        due("weigh", x.weigh(lot, grams, known), m.weigh(lot, grams, known));
    }

    private void ask() {
        int one = pick(-1, 40);
        int other = random.nextBoolean() ? pick(-1, 12) : pick(0, 1001);
        due("lot", x.lot(one, other), m.lot(one, other));
        due("allowed", x.allowed(one, other), m.allowed(one, other));
        due("need", x.need(one, other), m.need(one, other));
        due("of", x.of(one, other), m.of(one, other));
        due("got", x.got(one, other), m.got(one, other));
        due("given", x.given(one, other), m.given(one, other));
        due("led", x.led(one, other), m.led(one, other));
        due("count", x.count(one), m.count(one));
        due("fault", x.fault(), m.fault);
    }

    private void compareAll() {
        for (int i = -1; i <= m.lots.size(); i++) {
            for (int what = -1; what <= 8; what++) {
                due("lot(" + i + ", " + what + ")", x.lot(i, what), m.lot(i, what));
            }
        }
        for (int i = -1; i <= m.parcels.size(); i++) {
            for (int what = -1; what < 440; what++) {
                due("of(" + i + ", " + what + ")", x.of(i, what), m.of(i, what));
            }
        }
        for (int what = -1; what <= 31; what++) {
            due("count(" + what + ")", x.count(what), m.count(what));
        }
        for (int i = -1; i <= m.families.size(); i++) {
            for (int j = -1; j <= 20; j++) {
                due("led", x.led(j, i), m.led(j, i));
                due("need", x.need(i, j), m.need(i, j));
                due("allowed", x.allowed(i, j), m.allowed(i, j));
            }
        }
        for (int i = -1; i <= 20; i++) {
            for (int j = -1; j <= 10; j++) {
                due("given", x.given(i, j), m.given(i, j));
                due("got", x.got(i, j), m.got(i, j));
            }
        }
    }
}

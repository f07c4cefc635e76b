import java.util.ArrayList;

/**
 * A food bank: gifts, parcels, referrals, rules, parted gluts, van rounds, and a book that leads each gram back.
 * What each call answers is told by the document's promises; words in capitals are the document's terms.
 */
public final class FoodShares {
    public static final int NONE = -1;

    // The codes by which a call is REFUSED; the first that fits, in this order, is the answer.
    private static final int BAD_NUMBER = -1;
    private static final int NO_SUCH = -2;
    private static final int NO_REFERRAL = -3;
    private static final int NOTHING = -4;
    private static final int NO_ROOM = -5;
    private static final int BAD_TEXT = -6;

    private static final int KINDS = 10;
    private static final int GIVERS = 20;
    private static final int MOST_BITS = 255;
    private static final int MOST_GRAMS = 1_000_000;
    private static final int MOST_HEADS = 12;
    private static final int LAST_DAY = 1000;
    private static final int LAST_TODAY = 500;
    private static final int LAST_KNOWN = 100_000;
    private static final int MOST_DAYS_AT_ONCE = 60;
    private static final int MOST_CAP = 10_000_000;
    private static final int HOUSE = 12;
    private static final int MOST_MINUTES = 600;

    private static final int MOST_LOTS = 200;
    private static final int MOST_TABLES = 12;
    private static final int MOST_FAMILIES = 40;
    private static final int MOST_REFERRALS = 100;
    private static final int MOST_PARCELS_REFERRED = 20;
    private static final int MOST_WEIGHINGS = 100;
    private static final int MOST_LOADS = 8;
    private static final int MOST_RULES = 30;
    private static final int MOST_BYTES = 400;
    private static final int BYTES_FED = 20;

    private static final int MOST_RULE_GRAMS = 100_000;
    private static final int MOST_RULE_DAYS = 1000;

    // What lot() can be asked for.
    private static final int LOT_KIND = 0;
    private static final int LOT_TOLD = 1;
    private static final int LOT_LAST = 2;
    private static final int LOT_GIVER = 3;
    private static final int LOT_LEFT = 4;
    private static final int LOT_HANDED = 5;
    private static final int LOT_PARTED = 6;
    private static final int LOT_SPOILT = 7;

    // Where the LINES stand among what of() can be asked for.
    private static final int OF_LINE_LOT = 10;
    private static final int OF_LINE_GRAMS = 400;

    private static final int COUNT_KIND_LEFT = 20;

    // Twice the first step less one is above every WANT.
    private static final int FIRST_LEVEL_STEP = 1 << 19;

    private final int[] contentsOfKind = new int[KINDS];
    private final Stock stock = new Stock();
    private final ArrayList<Table> tables = new ArrayList<>();
    private final ArrayList<Family> families = new ArrayList<>();
    private final ArrayList<Parcel> parcels = new ArrayList<>();
    private final RuleReader reader = new RuleReader();
    private final Vans vans = new Vans();
    private RuleSet ruleSet = new RuleSet();
    private int today = 0;
    private int referrals = 0;
    private int weighings = 0;
    private int refusal = 0;

    public FoodShares() {
    }

    public int contents(int kind, int bits) {
        if (!isKind(kind) || !isWithin(bits, 0, MOST_BITS)) {
            return refuse(BAD_NUMBER);
        }
        contentsOfKind[kind] = bits;
        return accept(0);
    }

    public int gift(int kind, int grams, int last, int giver) {
        if (!isKind(kind) || !isWithin(grams, 1, MOST_GRAMS) || !isWithin(last, today, LAST_DAY)
                || !isWithin(giver, 0, GIVERS - 1)) {
            return refuse(BAD_NUMBER);
        }
        if (stock.size() >= MOST_LOTS) {
            return refuse(NO_ROOM);
        }
        stock.add(new Lot(stock.size(), kind, grams, last, giver));
        return accept(stock.size() - 1);
    }

    public int lot(int lot, int what) {
        Lot asked = stock.find(lot);
        return asked == null ? NONE : asked.tell(what);
    }

    public int table() {
        if (tables.size() >= MOST_TABLES) {
            return refuse(NO_ROOM);
        }
        tables.add(new Table());
        return accept(tables.size() - 1);
    }

    public int family(int table, int heads, int bars) {
        if (!isWithin(heads, 1, MOST_HEADS) || !isWithin(bars, 0, MOST_BITS)) {
            return refuse(BAD_NUMBER);
        }
        if (findTable(table) == null) {
            return refuse(NO_SUCH);
        }
        if (families.size() >= MOST_FAMILIES) {
            return refuse(NO_ROOM);
        }
        families.add(new Family(heads, bars));
        return accept(families.size() - 1);
    }

    public int refer(int family, int first, int last, int parcels) {
        if (!isWithin(first, 0, LAST_DAY) || !isWithin(last, first, LAST_DAY)
                || !isWithin(parcels, 1, MOST_PARCELS_REFERRED)) {
            return refuse(BAD_NUMBER);
        }
        Family referred = findFamily(family);
        if (referred == null) {
            return refuse(NO_SUCH);
        }
        if (referrals >= MOST_REFERRALS) {
            return refuse(NO_ROOM);
        }
        referred.newest = new Referral(first, last, parcels, referred.newest);
        referrals++;
        return accept(referrals);
    }

    public int allowed(int family, int day) {
        Family asked = findFamily(family);
        return asked == null || !isWithin(day, 0, LAST_DAY) ? NONE : asked.parcelsLeftOn(day);
    }

    public int need(int family, int kind) {
        Family asked = findFamily(family);
        return asked == null || !isKind(kind) ? NONE : ruleSet.gramsNeeded(kind, asked.heads);
    }

    public int parcel(int family) {
        Family fed = findFamily(family);
        if (fed == null) {
            return refuse(NO_SUCH);
        }
        Referral letting = fed.referralFor(today);
        if (letting == null) {
            return refuse(NO_REFERRAL);
        }
        Parcel packed = new Parcel(family, today);
        for (int kind = 0; kind < KINDS; kind++) {
            pack(packed, fed, kind);
        }
        if (packed.lines.isEmpty()) {
            return refuse(NOTHING);
        }
        letting.parcelsLeft--;
        parcels.add(packed);
        return accept(parcels.size() - 1);
    }

    public int of(int parcel, int what) {
        return isWithin(parcel, 0, parcels.size() - 1) ? parcels.get(parcel).tell(what) : NONE;
    }

    public int go(int days) {
        if (!isWithin(days, 1, MOST_DAYS_AT_ONCE) || today + days > LAST_TODAY) {
            return refuse(BAD_NUMBER);
        }
        today += days;
        stock.spoilBefore(today);
        return accept(today);
    }

    public int want(int table, int kind, int grams) {
        if (!isKind(kind) || !isWithin(grams, 0, MOST_GRAMS)) {
            return refuse(BAD_NUMBER);
        }
        Table wanting = findTable(table);
        if (wanting == null) {
            return refuse(NO_SUCH);
        }
        int before = wanting.wants[kind];
        wanting.wants[kind] = grams;
        return accept(before);
    }

    public int part(int kind) {
        if (!isKind(kind)) {
            return refuse(BAD_NUMBER);
        }
        int day = earliestLastDay(kind);
        int grams = stock.gramsThatMayGo(kind, day);
        int level = levelFor(kind, grams);
        int parted = partAtLevel(kind, level, grams - wantedUpTo(kind, level));
        if (parted == 0) {
            return refuse(NOTHING);
        }
        stock.partOut(kind, day, parted);
        return accept(parted);
    }

    public int got(int table, int kind) {
        Table asked = findTable(table);
        return asked == null || !isKind(kind) ? NONE : asked.gotten[kind];
    }

    public int road(int a, int b, int minutes) {
        if (!isWithin(a, 0, HOUSE) || !isWithin(b, 0, HOUSE) || a == b || !isWithin(minutes, 0, MOST_MINUTES)) {
            return refuse(BAD_NUMBER);
        }
        vans.minutes[a][b] = minutes;
        vans.minutes[b][a] = minutes;
        return accept(0);
    }

    public int load(int table, int grams) {
        if (!isWithin(grams, 0, MOST_GRAMS)) {
            return refuse(BAD_NUMBER);
        }
        Table loaded = findTable(table);
        if (loaded == null) {
            return refuse(NO_SUCH);
        }
        if (grams > 0 && loaded.grams == 0 && loads() >= MOST_LOADS) {
            return refuse(NO_ROOM);
        }
        loaded.grams = grams;
        return accept(loads());
    }

    public int rounds(int cap) {
        if (!isWithin(cap, 1, MOST_CAP)) {
            return refuse(BAD_NUMBER);
        }
        int heaviest = heaviestLoad();
        if (heaviest == 0) {
            return refuse(NOTHING);
        }
        if (heaviest > cap) {
            return refuse(NO_ROOM);
        }
        return accept(vans.plan(tables, cap));
    }

    public int stop(int i) {
        return vans.tellStop(i);
    }

    public int feed(int a, int b, int c, int d, int e) {
        if (reader.length + BYTES_FED > MOST_BYTES) {
            return NONE;
        }
        reader.append(a);
        reader.append(b);
        reader.append(c);
        reader.append(d);
        reader.append(e);
        return reader.length;
    }

    public int end(int n) {
        if (!isWithin(n, 0, reader.length)) {
            return NONE;
        }
        reader.length = n;
        return n;
    }

    public int rules() {
        boolean whole = reader.readText();
        reader.emptyTape(whole);
        if (!whole) {
            return refuse(BAD_TEXT);
        }
        ruleSet = reader.exchangeDraft(ruleSet);
        return accept(ruleSet.size);
    }

    public int fault() {
        return reader.faultPlace;
    }

    public int weigh(int lot, int grams, int known) {
        if (!isWithin(grams, 0, MOST_GRAMS) || !isWithin(known, 0, LAST_KNOWN)) {
            return refuse(BAD_NUMBER);
        }
        Lot weighed = stock.find(lot);
        if (weighed == null) {
            return refuse(NO_SUCH);
        }
        if (weighings >= MOST_WEIGHINGS) {
            return refuse(NO_ROOM);
        }
        weighed.newest = new Weighing(grams, known, weighed.newest);
        weighings++;
        return accept(weighings);
    }

    public long given(int giver, int known) {
        if (!isWithin(giver, 0, GIVERS - 1) || !isWithin(known, 0, LAST_KNOWN)) {
            return NONE;
        }
        return stock.givenBy(giver, known);
    }

    public long led(int giver, int family) {
        Family asked = findFamily(family);
        return asked == null || !isWithin(giver, 0, GIVERS - 1) ? NONE : asked.hadOfGiver[giver];
    }

    public long count(int what) {
        if (isWithin(what, COUNT_KIND_LEFT, COUNT_KIND_LEFT + KINDS - 1)) {
            return stock.leftOfKind(what - COUNT_KIND_LEFT);
        }
        switch (what) {
            case 0: return today;
            case 1: return stock.size();
            case 2: return tables.size();
            case 3: return families.size();
            case 4: return referrals;
            case 5: return parcels.size();
            case 6: return ruleSet.size;
            case 7: return weighings;
            case 8: return stock.sumOver(LOT_TOLD);
            case 9: return stock.sumOver(LOT_LEFT);
            case 10: return stock.sumOver(LOT_HANDED);
            case 11: return stock.sumOver(LOT_PARTED);
            case 12: return stock.sumOver(LOT_SPOILT);
            case 13: return shortInAllParcels();
            case 14: return reader.length;
            default: return NONE;
        }
    }

    public int status() {
        return refusal;
    }

    private int refuse(int code) {
        refusal = code;
        return code;
    }

    private int accept(int answer) {
        refusal = 0;
        return answer;
    }

    private static boolean isWithin(int number, int least, int most) {
        return number >= least && number <= most;
    }

    private static boolean isKind(int number) {
        return isWithin(number, 0, KINDS - 1);
    }

    private Table findTable(int number) {
        return isWithin(number, 0, tables.size() - 1) ? tables.get(number) : null;
    }

    private Family findFamily(int number) {
        return isWithin(number, 0, families.size() - 1) ? families.get(number) : null;
    }

    private int earliestLastDay(int kind) {
        return today + ruleSet.daysSpared(kind);
    }

    private void pack(Parcel packed, Family fed, int kind) {
        int missing = ruleSet.gramsNeeded(kind, fed.heads);
        missing -= packFrom(packed, fed, kind, missing);
        for (int rule = 0; rule < ruleSet.size && missing > 0; rule++) {
            int instead = ruleSet.kindSwapped(rule, kind);
            if (instead != NONE) {
                missing -= packFrom(packed, fed, instead, missing);
            }
        }
        packed.missing += missing;
    }

    private int packFrom(Parcel packed, Family fed, int kind, int grams) {
        if (!isKind(kind) || (contentsOfKind[kind] & fed.bars) != 0) {
            return 0;
        }
        return stock.handOut(kind, earliestLastDay(kind), grams, packed, fed);
    }

    private long shortInAllParcels() {
        long sum = 0;
        for (int i = 0; i < parcels.size(); i++) {
            sum += parcels.get(i).missing;
        }
        return sum;
    }

    // Where all WANTS can be met, the LEVEL found is above them all, and so cuts none.
    private int levelFor(int kind, int grams) {
        int level = 0;
        for (int step = FIRST_LEVEL_STEP; step > 0; step >>= 1) {
            if (wantedUpTo(kind, level + step) <= grams) {
                level += step;
            }
        }
        return level;
    }

    private int wantedUpTo(int kind, int level) {
        int sum = 0;
        for (int i = 0; i < tables.size(); i++) {
            sum += Math.min(tables.get(i).wants[kind], level);
        }
        return sum;
    }

    private int partAtLevel(int kind, int level, int over) {
        int overLeft = over;
        int parted = 0;
        for (int i = 0; i < tables.size(); i++) {
            Table table = tables.get(i);
            int share = Math.min(table.wants[kind], level);
            if (table.wants[kind] > level && overLeft > 0) {
                share++;
                overLeft--;
            }
            table.wants[kind] -= share;
            table.gotten[kind] += share;
            parted += share;
        }
        return parted;
    }

    private int loads() {
        int loaded = 0;
        for (int i = 0; i < tables.size(); i++) {
            if (tables.get(i).grams > 0) {
                loaded++;
            }
        }
        return loaded;
    }

    private int heaviestLoad() {
        int heaviest = 0;
        for (int i = 0; i < tables.size(); i++) {
            heaviest = Math.max(heaviest, tables.get(i).grams);
        }
        return heaviest;
    }

    /** A WEIGHING of a LOT, with the one of that LOT that was told before it. */
    private static final class Weighing {
        final int grams;
        final int known;
        final Weighing before;

        Weighing(int grams, int known, Weighing before) {
            this.grams = grams;
            this.known = known;
            this.before = before;
        }
    }

    private static final class Lot {
        final int number;
        final int kind;
        final int told;
        final int last;
        final int giver;
        int left;
        int handed = 0;
        int parted = 0;
        int spoilt = 0;
        Lot later = null;
        Weighing newest = null;

        Lot(int number, int kind, int grams, int last, int giver) {
            this.number = number;
            this.kind = kind;
            this.told = grams;
            this.last = last;
            this.giver = giver;
            this.left = grams;
        }

        int tell(int what) {
            switch (what) {
                case LOT_KIND: return kind;
                case LOT_TOLD: return told;
                case LOT_LAST: return last;
                case LOT_GIVER: return giver;
                case LOT_LEFT: return left;
                case LOT_HANDED: return handed;
                case LOT_PARTED: return parted;
                case LOT_SPOILT: return spoilt;
                default: return NONE;
            }
        }

        boolean mayGo(int day) {
            return left > 0 && last >= day;
        }

        int lose(int most) {
            int lost = Math.min(left, most);
            left -= lost;
            return lost;
        }

        int gramsAsKnown(int day) {
            for (Weighing weighing = newest; weighing != null; weighing = weighing.before) {
                if (weighing.known <= day) {
                    return weighing.grams;
                }
            }
            return told;
        }
    }

    /** The LOTS by their numbers, and those of each KIND as a chain in the order in which they MAY GO. */
    private static final class Stock {
        private final ArrayList<Lot> lots = new ArrayList<>();
        private final Lot[] soonest = new Lot[KINDS];

        int size() {
            return lots.size();
        }

        Lot find(int number) {
            return isWithin(number, 0, lots.size() - 1) ? lots.get(number) : null;
        }

        private Lot soonestOf(int kind) {
            return isKind(kind) ? soonest[kind] : null;
        }

        void add(Lot lot) {
            if (!isKind(lot.kind)) {
                return;
            }
            lots.add(lot);
            Lot before = null;
            for (Lot other = soonest[lot.kind]; other != null && other.last <= lot.last; other = other.later) {
                before = other;
            }
            if (before == null) {
                lot.later = soonest[lot.kind];
                soonest[lot.kind] = lot;
            } else {
                lot.later = before.later;
                before.later = lot;
            }
        }

        void spoilBefore(int day) {
            for (int i = 0; i < lots.size(); i++) {
                Lot lot = lots.get(i);
                if (lot.last < day) {
                    lot.spoilt += lot.lose(lot.left);
                }
            }
        }

        int gramsThatMayGo(int kind, int day) {
            int sum = 0;
            for (Lot lot = soonestOf(kind); lot != null; lot = lot.later) {
                if (lot.mayGo(day)) {
                    sum += lot.left;
                }
            }
            return sum;
        }

        void partOut(int kind, int day, int grams) {
            int missing = grams;
            for (Lot lot = soonestOf(kind); lot != null && missing > 0; lot = lot.later) {
                if (lot.mayGo(day)) {
                    int lost = lot.lose(missing);
                    lot.parted += lost;
                    missing -= lost;
                }
            }
        }

        int handOut(int kind, int day, int grams, Parcel packed, Family fed) {
            int missing = grams;
            for (Lot lot = soonestOf(kind); lot != null && missing > 0; lot = lot.later) {
                if (lot.mayGo(day)) {
                    int lost = lot.lose(missing);
                    lot.handed += lost;
                    missing -= lost;
                    packed.addLine(lot.number, lost);
                    fed.noteHad(lot.giver, lost);
                }
            }
            return grams - missing;
        }

        long givenBy(int giver, int known) {
            long sum = 0;
            for (int i = 0; i < lots.size(); i++) {
                Lot lot = lots.get(i);
                if (lot.giver == giver) {
                    sum += lot.gramsAsKnown(known);
                }
            }
            return sum;
        }

        long sumOver(int what) {
            long sum = 0;
            for (int i = 0; i < lots.size(); i++) {
                sum += lots.get(i).tell(what);
            }
            return sum;
        }

        long leftOfKind(int kind) {
            long sum = 0;
            for (Lot lot = soonestOf(kind); lot != null; lot = lot.later) {
                sum += lot.left;
            }
            return sum;
        }
    }

    private static final class Table {
        final int[] wants = new int[KINDS];
        final int[] gotten = new int[KINDS];
        int grams = 0;
    }

    /** A REFERRAL of a FAMILY, with the one of that FAMILY that was told before it. */
    private static final class Referral {
        final int first;
        final int last;
        int parcelsLeft;
        final Referral before;

        Referral(int first, int last, int parcels, Referral before) {
            this.first = first;
            this.last = last;
            this.parcelsLeft = parcels;
            this.before = before;
        }

        boolean holds(int day) {
            return isWithin(day, first, last);
        }
    }

    private static final class Family {
        final int heads;
        final int bars;
        final int[] hadOfGiver = new int[GIVERS];
        Referral newest = null;

        Family(int heads, int bars) {
            this.heads = heads;
            this.bars = bars;
        }

        int parcelsLeftOn(int day) {
            int sum = 0;
            for (Referral referral = newest; referral != null; referral = referral.before) {
                if (referral.holds(day)) {
                    sum += referral.parcelsLeft;
                }
            }
            return sum;
        }

        // The chain goes from the newest back, so one with a like last day was told earlier and goes first.
        Referral referralFor(int day) {
            Referral best = null;
            for (Referral referral = newest; referral != null; referral = referral.before) {
                if (referral.holds(day) && referral.parcelsLeft > 0
                        && (best == null || referral.last <= best.last)) {
                    best = referral;
                }
            }
            return best;
        }

        void noteHad(int giver, int grams) {
            if (isWithin(giver, 0, GIVERS - 1)) {
                hadOfGiver[giver] += grams;
            }
        }
    }

    private static final class Line {
        final int lot;
        final int grams;

        Line(int lot, int grams) {
            this.lot = lot;
            this.grams = grams;
        }
    }

    private static final class Parcel {
        final int family;
        final int day;
        final ArrayList<Line> lines = new ArrayList<>();
        int grams = 0;
        int missing = 0;

        Parcel(int family, int day) {
            this.family = family;
            this.day = day;
        }

        void addLine(int lot, int gramsTaken) {
            lines.add(new Line(lot, gramsTaken));
            grams += gramsTaken;
        }

        // A PARCEL has at most 210 LINES (each but one a KIND empties its LOT), so the two ranges never meet.
        int tell(int what) {
            if (isWithin(what, OF_LINE_LOT, OF_LINE_LOT + lines.size() - 1)) {
                return lines.get(what - OF_LINE_LOT).lot;
            }
            if (isWithin(what, OF_LINE_GRAMS, OF_LINE_GRAMS + lines.size() - 1)) {
                return lines.get(what - OF_LINE_GRAMS).grams;
            }
            switch (what) {
                case 0: return family;
                case 1: return day;
                case 2: return lines.size();
                case 3: return grams;
                case 4: return missing;
                default: return NONE;
            }
        }
    }

    /** RULES as they were read, in order. A "swap" stands under the KIND that is missing. */
    private static final class RuleSet {
        private static final int NEED = 1;
        private static final int SPARE = 2;
        private static final int SWAP = 3;

        private final int[] verbs = new int[MOST_RULES];
        private final int[] kinds = new int[MOST_RULES];
        private final int[] amounts = new int[MOST_RULES];
        private final int[] aboves = new int[MOST_RULES];
        int size = 0;

        void addNeed(int kind, int grams, int above) {
            add(NEED, kind, grams, above);
        }

        void addSpare(int kind, int days) {
            add(SPARE, kind, days, 0);
        }

        void addSwap(int instead, int kind) {
            add(SWAP, kind, instead, 0);
        }

        private void add(int verb, int kind, int amount, int above) {
            if (size < MOST_RULES) {
                verbs[size] = verb;
                kinds[size] = kind;
                amounts[size] = amount;
                aboves[size] = above;
                size++;
            }
        }

        private boolean isRule(int rule, int verb, int kind) {
            return isWithin(rule, 0, MOST_RULES - 1) && verbs[rule] == verb && kinds[rule] == kind;
        }

        int gramsNeeded(int kind, int heads) {
            int sum = 0;
            for (int rule = 0; rule < size; rule++) {
                if (isRule(rule, NEED, kind) && heads > aboves[rule]) {
                    sum += amounts[rule] * heads;
                }
            }
            return sum;
        }

        int daysSpared(int kind) {
            int most = 0;
            for (int rule = 0; rule < size; rule++) {
                if (isRule(rule, SPARE, kind)) {
                    most = Math.max(most, amounts[rule]);
                }
            }
            return most;
        }

        int kindSwapped(int rule, int missingKind) {
            return isRule(rule, SWAP, missingKind) ? amounts[rule] : NONE;
        }
    }

    /** The TAPE, and how it becomes RULES: a draft that is only taken if the whole TEXT could be read. */
    private static final class RuleReader {
        private static final int LETTER = 1;
        private static final int DIGIT = 2;
        private static final int OTHER = 3;

        private final byte[] tape = new byte[MOST_BYTES];
        private RuleSet draft = new RuleSet();
        private int tokenStart = 0;
        private int tokenBehind = 0;
        int length = 0;
        int faultPlace = NONE;

        void append(int fourBytes) {
            for (int shift = 24; shift >= 0; shift -= 8) {
                if (length < MOST_BYTES) {
                    tape[length] = (byte) (fourBytes >> shift);
                    length++;
                }
            }
        }

        RuleSet exchangeDraft(RuleSet old) {
            RuleSet read = draft;
            draft = old;
            return read;
        }

        void emptyTape(boolean wasWhole) {
            faultPlace = wasWhole ? NONE : tokenStart;
            length = 0;
        }

        // This and every reading below stops with the first TOKEN that can't go on there still at hand.
        boolean readText() {
            draft.size = 0;
            tokenBehind = 0;
            nextToken();
            if (isBehindText()) {
                return true;
            }
            for (int rule = 0; rule < MOST_RULES; rule++) {
                if (!readRule()) {
                    return false;
                }
                if (isBehindText()) {
                    return true;
                }
                if (!isToken(";")) {
                    return false;
                }
                nextToken();
            }
            return false;
        }

        private boolean readRule() {
            if (isToken("need")) {
                return readNeed();
            }
            if (isToken("spare")) {
                return readSpare();
            }
            return isToken("swap") && readSwap();
        }

        private boolean readNeed() {
            int kind = nextNumber(KINDS - 1);
            if (kind == NONE) {
                return false;
            }
            int grams = nextNumber(MOST_RULE_GRAMS);
            if (grams == NONE) {
                return false;
            }
            int above = 0;
            nextToken();
            if (isToken("above")) {
                above = nextNumber(MOST_HEADS);
                if (above == NONE) {
                    return false;
                }
                nextToken();
            }
            draft.addNeed(kind, grams, above);
            return true;
        }

        private boolean readSpare() {
            int kind = nextNumber(KINDS - 1);
            if (kind == NONE) {
                return false;
            }
            int days = nextNumber(MOST_RULE_DAYS);
            if (days == NONE) {
                return false;
            }
            nextToken();
            draft.addSpare(kind, days);
            return true;
        }

        private boolean readSwap() {
            int instead = nextNumber(KINDS - 1);
            if (instead == NONE) {
                return false;
            }
            nextToken();
            if (!isToken("for")) {
                return false;
            }
            int kind = nextNumber(KINDS - 1);
            if (kind == NONE || kind == instead) {
                return false;
            }
            nextToken();
            draft.addSwap(instead, kind);
            return true;
        }

        private boolean isBehindText() {
            return tokenStart >= length;
        }

        private int byteAt(int place) {
            return place >= 0 && place < length && place < MOST_BYTES ? tape[place] : NONE;
        }

        private static int sortOf(int single) {
            if (single >= 'a' && single <= 'z') {
                return LETTER;
            }
            return single >= '0' && single <= '9' ? DIGIT : OTHER;
        }

        private void nextToken() {
            tokenStart = tokenBehind;
            while (tokenStart < length && byteAt(tokenStart) == ' ') {
                tokenStart++;
            }
            tokenBehind = tokenStart;
            int sort = sortOf(byteAt(tokenStart));
            if (sort == OTHER) {
                tokenBehind = Math.min(tokenStart + 1, length);
            }
            while (sort != OTHER && tokenBehind < length && sortOf(byteAt(tokenBehind)) == sort) {
                tokenBehind++;
            }
        }

        private boolean isToken(String word) {
            if (tokenBehind - tokenStart != word.length()) {
                return false;
            }
            for (int i = 0; i < word.length(); i++) {
                if (byteAt(tokenStart + i) != word.charAt(i)) {
                    return false;
                }
            }
            return true;
        }

        // A row of up to 400 digits would not fit an int, so it is given up as soon as it is above the most.
        private int nextNumber(int most) {
            nextToken();
            if (sortOf(byteAt(tokenStart)) != DIGIT) {
                return NONE;
            }
            int number = 0;
            for (int place = tokenStart; place < tokenBehind; place++) {
                number = number * 10 + byteAt(place) - '0';
                if (number > most) {
                    return NONE;
                }
            }
            return number;
        }
    }

    /**
     * ROUNDS. The TABLES with LOADS are members 0 .. 7 in the order of their numbers, and a set of them is a number
     * whose bit i says that member i is in it; the rows over all sets are made once and used again by every plan.
     */
    private static final class Vans {
        private static final int SETS = 1 << MOST_LOADS;
        private static final int TOO_FAR = 1 << 20;
        // A cost is minutes times this, plus rounds: one number that puts the minutes first.
        private static final int ROUNDS_PER_MINUTE = 16;
        private static final int BITS_OF_STOP = 4;
        private static final int STOP_MASK = 15;
        private static final long BEHIND_ALL_ROUNDS = 1L << 40;
        private static final int MOST_STOPS = 2 * MOST_LOADS - 1;

        final int[][] minutes = new int[HOUSE + 1][HOUSE + 1];
        private final int[] tableOf = new int[MOST_LOADS];
        private final int[] gramsOf = new int[MOST_LOADS];
        private int members = 0;
        private final int[] weight = new int[SETS];
        // By set * 8 + member: the least minutes from the house by all of the set to that member at last.
        private final int[] way = new int[SETS * MOST_LOADS];
        private final int[] oneRound = new int[SETS];
        private final int[] leastCost = new int[SETS];
        private final int[] row = new int[MOST_STOPS];
        private int stops = NONE;

        int tellStop(int i) {
            if (i == -1) {
                return stops;
            }
            return isWithin(i, 0, stops - 1) && i < MOST_STOPS ? row[i] : NONE;
        }

        int plan(ArrayList<Table> tables, int cap) {
            gather(tables);
            weighSets();
            int all = (1 << members) - 1;
            for (int set = 1; set <= all; set++) {
                oneRound[set] = weight[set] > cap ? TOO_FAR : shortestRound(set);
            }
            for (int set = 1; set <= all; set++) {
                leastCost[set] = cheapestParting(set);
            }
            writeRow(all);
            return leastCost[all] / ROUNDS_PER_MINUTE;
        }

        private void gather(ArrayList<Table> tables) {
            members = 0;
            for (int i = 0; i < tables.size() && i < HOUSE; i++) {
                int grams = tables.get(i).grams;
                if (grams > 0 && members < MOST_LOADS) {
                    tableOf[members] = i;
                    gramsOf[members] = grams;
                    members++;
                }
            }
        }

        private void weighSets() {
            for (int member = 0; member < members; member++) {
                int alone = 1 << member;
                for (int lower = 0; lower < alone; lower++) {
                    weight[lower | alone] = weight[lower] + gramsOf[member];
                }
            }
        }

        private int fromHouse(int member) {
            return minutes[HOUSE][tableOf[member]];
        }

        private int between(int one, int other) {
            return minutes[tableOf[one]][tableOf[other]];
        }

        private static boolean isIn(int set, int member) {
            return ((set >> member) & 1) != 0;
        }

        // Sets come in the order of their numbers, so the ways of all lesser sets are there already.
        private int shortestRound(int set) {
            int least = TOO_FAR;
            for (int last = 0; last < members; last++) {
                if (isIn(set, last)) {
                    int there = shortestWay(set, last);
                    way[set * MOST_LOADS + last] = there;
                    least = Math.min(least, there + fromHouse(last));
                }
            }
            return least;
        }

        private int shortestWay(int set, int last) {
            int rest = set ^ (1 << last);
            if (rest == 0) {
                return fromHouse(last);
            }
            int least = TOO_FAR;
            for (int before = 0; before < members; before++) {
                if (isIn(rest, before)) {
                    least = Math.min(least, way[rest * MOST_LOADS + before] + between(before, last));
                }
            }
            return least;
        }

        // The round of the lowest member goes first, whatever else is in it; what it leaves is parted already.
        private int cheapestParting(int set) {
            int least = costWithRest(set, 0);
            int others = set & (set - 1);
            for (int rest = others; rest > 0; rest = (rest - 1) & others) {
                least = Math.min(least, costWithRest(set, rest));
            }
            return least;
        }

        private int costWithRest(int set, int rest) {
            int restCost = rest == 0 ? 0 : leastCost[rest];
            return oneRound[set ^ rest] * ROUNDS_PER_MINUTE + 1 + restCost;
        }

        private void writeRow(int all) {
            stops = 0;
            int rest = all;
            for (int round = 0; round < MOST_LOADS && rest != 0; round++) {
                if (round > 0) {
                    addStop(HOUSE);
                }
                int set = firstRound(rest);
                addRound(roundAsNumber(set));
                rest ^= set;
            }
        }

        private void addStop(int place) {
            if (stops < MOST_STOPS) {
                row[stops] = place;
                stops++;
            }
        }

        private void addRound(long number) {
            for (int shift = MOST_LOADS * BITS_OF_STOP; shift > 0; shift -= BITS_OF_STOP) {
                int place = (int) (number >> shift) & STOP_MASK;
                if (place != HOUSE) {
                    addStop(place);
                }
            }
        }

        // Of the cheapest partings, the set of the round that begins the first row. The cost tells rounds too, so all
        // in one round never costs the same as a parting into more: it is the cheapest where none of these is.
        private int firstRound(int set) {
            int found = set;
            long first = BEHIND_ALL_ROUNDS;
            int others = set & (set - 1);
            for (int rest = others; rest > 0; rest = (rest - 1) & others) {
                if (costWithRest(set, rest) == leastCost[set]) {
                    long number = roundAsNumber(set ^ rest);
                    if (number < first) {
                        first = number;
                        found = set ^ rest;
                    }
                }
            }
            return found;
        }

        // The first of the shortest rounds by a set, a stop each four bits and the house behind them: rows are then
        // compared as numbers. As roads are alike either way, a way from the house is also one back to it.
        private long roundAsNumber(int set) {
            long number = 0;
            int rest = set;
            int from = NONE;
            int due = oneRound[set];
            for (int step = 0; step <= MOST_LOADS; step++) {
                int next = nextMember(rest, from, due);
                int place = HOUSE;
                if (next != NONE) {
                    place = tableOf[next];
                    due = way[rest * MOST_LOADS + next];
                    rest ^= 1 << next;
                    from = next;
                }
                number = (number << BITS_OF_STOP) | place;
            }
            return number;
        }

        private int nextMember(int rest, int from, int due) {
            for (int member = 0; member < members; member++) {
                if (isIn(rest, member)) {
                    int leg = from == NONE ? fromHouse(member) : between(from, member);
                    if (leg + way[rest * MOST_LOADS + member] == due) {
                        return member;
                    }
                }
            }
            return NONE;
        }
    }
}

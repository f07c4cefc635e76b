import java.util.ArrayList;
import java.util.Collections;
import java.util.Comparator;
import java.util.HashMap;
import java.util.List;
import java.util.Map;
import java.util.regex.Matcher;
import java.util.regex.Pattern;

/** The document told a second time, as plainly as the Java library allows and in other ways than the class does. */
final class PlainModel {
    private static final Pattern TOKEN = Pattern.compile("[a-z]+|[0-9]+|[^ ]", Pattern.DOTALL);

    int today = 0;
    int status = 0;
    final int[] contents = new int[10];
    final List<int[]> lots = new ArrayList<>();        // as lot() tells them
    final List<int[]> families = new ArrayList<>();    // table, heads, bars
    final List<int[]> referrals = new ArrayList<>();   // family, first, last, parcels left
    final List<List<Integer>> parcels = new ArrayList<>(); // family, day, short, then lot, grams, lot, grams ..
    final List<int[]> weighings = new ArrayList<>();   // lot, grams, known
    List<String[]> rules = new ArrayList<>();
    final Map<String, Integer> wants = new HashMap<>();
    final Map<String, Integer> got = new HashMap<>();
    final int[][] minutes = new int[13][13];
    final int[] loads = new int[12];
    int tables = 0;
    List<Integer> row = null;
    String tape = "";
    int fault = -1;

    private static boolean in(int n, int low, int high) {
        return low <= n && n <= high;
    }

    private int say(int answer) {
        status = 0;
        return answer;
    }

    private int no(int code) {
        status = code;
        return code;
    }

    int contents(int kind, int bits) {
        if (!in(kind, 0, 9) || !in(bits, 0, 255)) return no(-1);
        contents[kind] = bits;
        return say(0);
    }

    int gift(int kind, int grams, int last, int giver) {
        if (!in(kind, 0, 9) || !in(grams, 1, 1000000) || !in(last, 0, 1000) || !in(giver, 0, 19)) return no(-1);
        if (last < today) return no(-1);
        if (lots.size() == 200) return no(-5);
        lots.add(new int[] {kind, grams, last, giver, grams, 0, 0, 0});
        return say(lots.size() - 1);
    }

    int lot(int lot, int what) {
        return in(lot, 0, lots.size() - 1) && in(what, 0, 7) ? lots.get(lot)[what] : -1;
    }

    int table() {
        return tables == 12 ? no(-5) : say(tables++);
    }

    int family(int table, int heads, int bars) {
        if (!in(heads, 1, 12) || !in(bars, 0, 255)) return no(-1);
        if (!in(table, 0, tables - 1)) return no(-2);
        if (families.size() == 40) return no(-5);
        families.add(new int[] {table, heads, bars});
        return say(families.size() - 1);
    }

    private boolean isFamily(int family) {
        return in(family, 0, families.size() - 1);
    }

    int refer(int family, int first, int last, int count) {
        if (!in(first, 0, 1000) || !in(last, 0, 1000) || last < first || !in(count, 1, 20)) return no(-1);
        if (!isFamily(family)) return no(-2);
        if (referrals.size() == 100) return no(-5);
        referrals.add(new int[] {family, first, last, count});
        return say(referrals.size());
    }

    int allowed(int family, int day) {
        if (!isFamily(family) || !in(day, 0, 1000)) return -1;
        return referrals.stream().filter(r -> r[0] == family && in(day, r[1], r[2])).mapToInt(r -> r[3]).sum();
    }

    private static int number(String digits) {
        return Integer.parseInt(digits);
    }

    int need(int family, int kind) {
        if (!isFamily(family) || !in(kind, 0, 9)) return -1;
        int heads = families.get(family)[1];
        int sum = 0;
        for (String[] rule : rules) {
            if (rule[0].equals("need") && number(rule[1]) == kind && (rule.length < 4 || heads > number(rule[4]))) {
                sum += heads * number(rule[2]);
            }
        }
        return sum;
    }

    private List<Integer> mayGo(int kind) {
        int spared = 0;
        for (String[] rule : rules) {
            if (rule[0].equals("spare") && number(rule[1]) == kind) spared = Math.max(spared, number(rule[2]));
        }
        List<Integer> found = new ArrayList<>();
        for (int i = 0; i < lots.size(); i++) {
            int[] lot = lots.get(i);
            if (lot[0] == kind && lot[4] > 0 && lot[2] >= today + spared) found.add(i);
        }
        found.sort(Comparator.<Integer>comparingInt(i -> lots.get(i)[2]).thenComparingInt(i -> i));
        return found;
    }

    private int take(List<Integer> parcel, int bars, int kind, int grams) {
        int missing = grams;
        if ((contents[kind] & bars) != 0) return missing;
        for (int i : mayGo(kind)) {
            int taken = Math.min(missing, lots.get(i)[4]);
            if (taken == 0) break;
            lots.get(i)[4] -= taken;
            lots.get(i)[5] += taken;
            Collections.addAll(parcel, i, taken);
            missing -= taken;
        }
        return missing;
    }

    int parcel(int family) {
        if (!isFamily(family)) return no(-2);
        int[] lets = referrals.stream().filter(r -> r[0] == family && in(today, r[1], r[2]) && r[3] > 0)
            .min(Comparator.comparingInt(r -> r[2])).orElse(null);
        if (lets == null) return no(-3);
        int bars = families.get(family)[2];
        List<Integer> parcel = new ArrayList<>(List.of(family, today, 0));
        int missingInAll = 0;
        for (int kind = 0; kind <= 9; kind++) {
            int missing = take(parcel, bars, kind, need(family, kind));
            for (String[] rule : rules) {
                if (rule[0].equals("swap") && number(rule[3]) == kind) {
                    missing = take(parcel, bars, number(rule[1]), missing);
                }
            }
            missingInAll += missing;
        }
        if (parcel.size() == 3) return no(-4);
        parcel.set(2, missingInAll);
        lets[3]--;
        parcels.add(parcel);
        return say(parcels.size() - 1);
    }

    int of(int parcel, int what) {
        if (!in(parcel, 0, parcels.size() - 1)) return -1;
        List<Integer> asked = parcels.get(parcel);
        int lines = (asked.size() - 3) / 2;
        int grams = 0;
        for (int i = 4; i < asked.size(); i += 2) {
            grams += asked.get(i);
        }
        if (what == 0 || what == 1) return asked.get(what);
        if (what == 2) return lines;
        if (what == 3) return grams;
        if (what == 4) return asked.get(2);
        if (in(what, 10, 399) && what - 10 < lines) return asked.get(3 + 2 * (what - 10));
        if (what >= 400 && what - 400 < lines) return asked.get(4 + 2 * (what - 400));
        return -1;
    }

    int go(int days) {
        if (!in(days, 1, 60) || today + days > 500) return no(-1);
        for (int i = 0; i < days; i++) {
            today++;
            for (int[] lot : lots) {
                if (lot[2] < today) {
                    lot[7] += lot[4];
                    lot[4] = 0;
                }
            }
        }
        return say(today);
    }

    int want(int table, int kind, int grams) {
        if (!in(kind, 0, 9) || !in(grams, 0, 1000000)) return no(-1);
        if (!in(table, 0, tables - 1)) return no(-2);
        Integer before = wants.put(table + " " + kind, grams);
        return say(before == null ? 0 : before);
    }

    /** Gram by gram: each next one to the TABLE that has got least by now and wants more, the lower first. */
    int part(int kind) {
        if (!in(kind, 0, 9)) return no(-1);
        List<Integer> from = mayGo(kind);
        int there = from.stream().mapToInt(i -> lots.get(i)[4]).sum();
        int[] share = new int[tables];
        int parted = 0;
        while (parted < there) {
            int least = -1;
            for (int i = 0; i < tables; i++) {
                if (share[i] < wants.getOrDefault(i + " " + kind, 0) && (least < 0 || share[i] < share[least])) {
                    least = i;
                }
            }
            if (least < 0) break;
            share[least]++;
            parted++;
        }
        if (parted == 0) return no(-4);
        for (int i = 0; i < tables; i++) {
            int missing = share[i];
            wants.merge(i + " " + kind, -missing, Integer::sum);
            got.merge(i + " " + kind, missing, Integer::sum);
            for (int lot : from) {
                int taken = Math.min(missing, lots.get(lot)[4]);
                lots.get(lot)[4] -= taken;
                lots.get(lot)[6] += taken;
                missing -= taken;
            }
        }
        return say(parted);
    }

    int got(int table, int kind) {
        return in(table, 0, tables - 1) && in(kind, 0, 9) ? got.getOrDefault(table + " " + kind, 0) : -1;
    }

    int road(int a, int b, int much) {
        if (!in(a, 0, 12) || !in(b, 0, 12) || a == b || !in(much, 0, 600)) return no(-1);
        minutes[a][b] = much;
        minutes[b][a] = much;
        return say(0);
    }

    private int loaded() {
        int n = 0;
        for (int load : loads) {
            n += load > 0 ? 1 : 0;
        }
        return n;
    }

    int load(int table, int grams) {
        if (!in(grams, 0, 1000000)) return no(-1);
        if (!in(table, 0, tables - 1)) return no(-2);
        int before = loads[table];
        loads[table] = grams;
        if (loaded() > 8) {
            loads[table] = before;
            return no(-5);
        }
        return say(loaded());
    }

    int rounds(int cap) {
        if (!in(cap, 1, 10000000)) return no(-1);
        if (loaded() == 0) return no(-4);
        for (int load : loads) {
            if (load > cap) return no(-5);
        }
        PlainRounds plain = new PlainRounds(minutes, loads, cap);
        row = plain.row();
        return say(plain.minutes());
    }

    int stop(int i) {
        if (row == null) return -1;
        if (i == -1) return row.size();
        return in(i, 0, row.size() - 1) ? row.get(i) : -1;
    }

    int feed(int... five) {
        if (tape.length() > 380) return -1;
        for (int i = 0; i < 20; i++) {
            tape += (char) (five[i / 4] >>> 8 * (3 - i % 4) & 255);
        }
        return tape.length();
    }

    int end(int n) {
        if (!in(n, 0, tape.length())) return -1;
        tape = tape.substring(0, n);
        return n;
    }

    int rules() {
        String text = tape;
        tape = "";
        fault = -1;
        List<String> tokens = new ArrayList<>();
        List<Integer> places = new ArrayList<>();
        Matcher matcher = TOKEN.matcher(text);
        while (matcher.find()) {
            tokens.add(matcher.group());
            places.add(matcher.start());
        }
        tokens.add("end");
        places.add(text.length());
        List<String[]> read = new ArrayList<>();
        int at = 0;
        while (tokens.size() > 1) {
            int from = at;
            String[] form = form(tokens, at);
            boolean known = form != null && read.size() < 30;
            for (int i = 0; known && i < form.length; i++, at++) {
                if (!fits(form[i], tokens.get(at))) {
                    fault = places.get(at);
                    return no(-6);
                }
                if (form[0].equals("swap") && i == 3 && number(tokens.get(at)) == number(tokens.get(from + 1))) {
                    fault = places.get(at);
                    return no(-6);
                }
            }
            if (known) read.add(tokens.subList(from, at).toArray(new String[0]));
            if (known && at == tokens.size() - 1) break;
            if (!known || !tokens.get(at).equals(";")) {
                fault = places.get(at);
                return no(-6);
            }
            at++;
        }
        rules = read;
        return say(read.size());
    }

    private static String[] form(List<String> tokens, int at) {
        switch (at == tokens.size() - 1 ? "" : tokens.get(at)) {
            case "need":
                boolean above = at + 3 < tokens.size() && tokens.get(at + 3).equals("above");
                return (above ? "need 9 100000 above 12" : "need 9 100000").split(" ");
            case "spare": return "spare 9 1000".split(" ");
            case "swap": return "swap 9 for 9".split(" ");
            default: return null;
        }
    }

    private static boolean fits(String form, String token) {
        if (!Character.isDigit(form.charAt(0))) return form.equals(token);
        return token.matches("[0-9]+") && new java.math.BigInteger(token).compareTo(new java.math.BigInteger(form)) <= 0;
    }

    int weigh(int lot, int grams, int known) {
        if (!in(grams, 0, 1000000) || !in(known, 0, 100000)) return no(-1);
        if (!in(lot, 0, lots.size() - 1)) return no(-2);
        if (weighings.size() == 100) return no(-5);
        weighings.add(new int[] {lot, grams, known});
        return say(weighings.size());
    }

    long given(int giver, int known) {
        if (!in(giver, 0, 19) || !in(known, 0, 100000)) return -1;
        long sum = 0;
        for (int i = 0; i < lots.size(); i++) {
            if (lots.get(i)[3] != giver) continue;
            int grams = lots.get(i)[1];
            for (int[] w : weighings) {
                if (w[0] == i && w[2] <= known) grams = w[1];
            }
            sum += grams;
        }
        return sum;
    }

    long led(int giver, int family) {
        if (!in(giver, 0, 19) || !isFamily(family)) return -1;
        long sum = 0;
        for (List<Integer> parcel : parcels) {
            for (int i = 3; parcel.get(0) == family && i < parcel.size(); i += 2) {
                if (lots.get(parcel.get(i))[3] == giver) sum += parcel.get(i + 1);
            }
        }
        return sum;
    }

    long count(int what) {
        int[] sizes = {today, lots.size(), tables, families.size(), referrals.size(), parcels.size(), rules.size(),
            weighings.size()};
        if (in(what, 0, 7)) return sizes[what];
        int[] column = {1, 4, 5, 6, 7};
        if (in(what, 8, 12)) return lots.stream().mapToLong(l -> l[column[what - 8]]).sum();
        if (what == 13) return parcels.stream().mapToLong(p -> p.get(2)).sum();
        if (what == 14) return tape.length();
        if (in(what, 20, 29)) return lots.stream().filter(l -> l[0] == what - 20).mapToLong(l -> l[4]).sum();
        return -1;
    }
}

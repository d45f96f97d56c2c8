import java.math.BigInteger;
import java.util.ArrayList;
import java.util.List;
import java.util.Set;
import java.util.TreeSet;
import java.util.regex.Matcher;
import java.util.regex.Pattern;

/**
 * The document said over again in the slowest and plainest way: rows are walked
 * beat by beat, orders are tried one by one, chances are summed over all sets.
 * It shares no line with the class, so that DrawnRunsTest can hold both together.
 */
final class Model {
    private static final int NONE = -6, UNKNOWN = -1, OUTSIDE = -2, STATE = -3, FULL = -4, NO = -5;
    private static final long LOST = -1000000000000000000L;
    private static final Pattern ACT = Pattern.compile("([A-J])([du-])|([A-J])x([A-J])|!");
    private static final Pattern DAYS = Pattern.compile("(?:[A-J][du-]|[A-J]x[A-J]|!)*");

    private int[] width = {5, 5, 5, 5, 5, 5, 5, 5, 5, 5};
    private int[] key = {12, 12, 12, 12, 12, 12, 12, 12, 12, 12};
    private int[] cell = new int[17];
    private int[] delay = new int[2];
    private List<List<Integer>> rows = new ArrayList<>();
    private int rung = 0;
    private List<int[]> rules = new ArrayList<>();
    private List<int[]> sights = new ArrayList<>();
    private String pad = "";
    private final Model[] images = new Model[2];

    Model() {
        rows.add(new ArrayList<>());
        rows.add(new ArrayList<>());
        java.util.Arrays.fill(cell, 12);
    }

    private Model copy() {
        Model other = new Model();
        other.width = width.clone();
        other.key = key.clone();
        other.cell = cell.clone();
        other.delay = delay.clone();
        other.rows.set(0, new ArrayList<>(rows.get(0)));
        other.rows.set(1, new ArrayList<>(rows.get(1)));
        other.rung = rung;
        other.rules = new ArrayList<>(rules);
        other.sights = new ArrayList<>(sights);
        return other;
    }

    private static boolean in(int n, int low, int high) {
        return low <= n && n <= high;
    }

    int member(int m, int w, int k) {
        if (!in(m, 0, 9)) return UNKNOWN;
        if (!in(w, 1, 15) || !in(k, 0, 12)) return OUTSIDE;
        int was = width[m];
        width[m] = w;
        key[m] = k;
        return was;
    }

    int wide(int c, int v) {
        if (!in(c, 0, 16)) return UNKNOWN;
        if (!in(v, 1, 30)) return OUTSIDE;
        int was = cell[c];
        cell[c] = v;
        return was;
    }

    int delay(int row, int v) {
        if (!in(row, 0, 1) || !in(v, 0, 20)) return OUTSIDE;
        int was = delay[row];
        delay[row] = v;
        return was;
    }

    int say(int sign) {
        if (!in(sign, 33, 126)) return OUTSIDE;
        if (pad.length() == 60) return FULL;
        pad += (char) sign;
        return pad.length();
    }

    int wipe() {
        int had = pad.length();
        pad = "";
        return had;
    }

    int fault() {
        if (DAYS.matcher(pad).matches()) return NONE;
        for (int end = 1; end <= pad.length(); end++) {
            boolean grows = false;
            for (String more : new String[] {"", "d", "A", "xA"}) {
                grows |= DAYS.matcher(pad.substring(0, end) + more).matches();
            }
            if (!grows) return end - 1;
        }
        return pad.length();
    }

    private int rowOf(int m) {
        return rows.get(0).contains(m) ? 0 : rows.get(1).contains(m) ? 1 : 2;
    }

    private void put(int m, int row) {
        rows.get(row).add(m);
    }

    /** Does the act; 0, or why it can not be. */
    private int act(String verb, int m, int other) {
        Set<Integer> reasons = new TreeSet<>();
        boolean joins = verb.equals("d") || verb.equals("u");
        int to = verb.equals("u") ? 1 : 0;
        if (joins && rowOf(m) != 2) reasons.add(1);
        if (verb.equals("-") && rowOf(m) == 2) reasons.add(1);
        if (verb.equals("x") && (rowOf(m) == 2 || rowOf(other) == 2)) reasons.add(1);
        if (joins && rows.get(to).size() == 6) reasons.add(2);
        if (verb.equals("x") && m == other) reasons.add(3);
        if (verb.equals("!") && rung == 99) reasons.add(4);
        for (int least : reasons) return least;
        if (joins) {
            put(m, to);
        } else if (verb.equals("-")) {
            rows.get(rowOf(m)).remove(Integer.valueOf(m));
        } else if (verb.equals("x")) {
            int r = rowOf(m), s = rowOf(other);
            int i = rows.get(r).indexOf(m), j = rows.get(s).indexOf(other);
            rows.get(r).set(i, other);
            rows.get(s).set(j, m);
        } else {
            rung++;
        }
        return 0;
    }

    /** Plays the pad here: how many acts could be, and why the next one can not (0: all). */
    private int[] play() {
        Matcher acts = ACT.matcher(pad);
        int count = 0;
        while (acts.find()) {
            int why;
            if (acts.group(1) != null) {
                why = act(acts.group(2), acts.group(1).charAt(0) - 'A', -1);
            } else if (acts.group(3) != null) {
                why = act("x", acts.group(3).charAt(0) - 'A', acts.group(4).charAt(0) - 'A');
            } else {
                why = act("!", -1, -1);
            }
            if (why != 0) return new int[] {count, why};
            count++;
        }
        return new int[] {count, 0};
    }

    /** As it is when the pad is done; null if it can not be. */
    private Model behind() {
        if (fault() != NONE) return null;
        Model b = copy();
        b.pad = pad;
        return b.play()[1] == 0 ? b : null;
    }

    /** For the draws: whether these days, told now on an empty pad, could be done. */
    boolean couldDo(String days) {
        Model tried = copy();
        tried.pad = days;
        return tried.behind() != null;
    }

    int judge(int what) {
        if (!in(what, 0, 1)) return OUTSIDE;
        if (fault() != NONE) return NO;
        Model b = copy();
        b.pad = pad;
        int[] played = b.play();
        return played[1] == 0 ? NONE : played[what];
    }

    int done() {
        if (behind() == null) return NO;
        int acts = play()[0];
        pad = "";
        return acts;
    }

    int place(int row, int i) {
        if (!in(row, 0, 1) || !in(i, 0, 5)) return OUTSIDE;
        Model b = behind();
        if (b == null) return NO;
        return i < b.rows.get(row).size() ? b.rows.get(row).get(i) : NONE;
    }

    int of(int m, int what) {
        if (!in(m, 0, 9)) return UNKNOWN;
        if (!in(what, 0, 1)) return OUTSIDE;
        Model b = behind();
        if (b == null) return NO;
        int row = b.rowOf(m);
        return what == 0 ? row : row == 2 ? NONE : b.rows.get(row).indexOf(m);
    }

    int bells() {
        Model b = behind();
        return b == null ? NO : b.rung;
    }

    /** The cell of who is in a place of a row at a beat; NONE if not in the street. */
    int cellAt(int row, int i, int late, int beat) {
        int at = row == 0 ? 0 : 16;
        int start = delay[row] + i + late;
        if (beat < start) return NONE;
        for (int b = start; b < beat; b++) {
            at += row == 0 ? 1 : -1;
        }
        return in(at, 0, 16) ? at : NONE;
    }

    /** All twos who meet: {half beat, place in row 0, place in row 1, where, 1 if they clash}. */
    private List<int[]> meetings() {
        List<int[]> all = new ArrayList<>();
        for (int i = 0; i < rows.get(0).size(); i++) {
            for (int j = 0; j < rows.get(1).size(); j++) {
                int both = width[rows.get(0).get(i)] + width[rows.get(1).get(j)];
                for (int beat = 0; beat < 50; beat++) {
                    int a = cellAt(0, i, 0, beat), b = cellAt(1, j, 0, beat);
                    if (a == NONE || b == NONE) continue;
                    if (a == b) {
                        all.add(new int[] {2 * beat, i, j, 2 * a, cell[a] >= both ? 0 : 1});
                    }
                    if (cellAt(0, i, 0, beat + 1) == b && cellAt(1, j, 0, beat + 1) == a) {
                        boolean clear = cell[a] >= both && cell[b] >= both;
                        all.add(new int[] {2 * beat + 1, i, j, 2 * Math.min(a, b) + 1, clear ? 0 : 1});
                    }
                }
            }
        }
        return all;
    }

    private int clashes() {
        int count = 0;
        for (int[] two : meetings()) count += two[4];
        return count;
    }

    int meets(int what) {
        if (!in(what, 0, 3)) return OUTSIDE;
        if (what == 0) return meetings().size();
        if (what == 1) return clashes();
        int[] first = null;
        for (int[] two : meetings()) {
            if (two[4] == 0) continue;
            if (first == null || two[0] < first[0] || two[0] == first[0] && two[1] < first[1]) first = two;
        }
        if (first == null) return NONE;
        return what == 3 ? first[3] : 10 * rows.get(0).get(first[1]) + rows.get(1).get(first[2]);
    }

    int runs() {
        int last = 0;
        for (int row = 0; row < 2; row++) {
            for (int i = 0; i < rows.get(row).size(); i++) {
                int beat = delay[row] + i;
                while (cellAt(row, i, 0, beat) != NONE) beat++;
                last = Math.max(last, beat);
            }
        }
        return last;
    }

    private static void orderings(List<Integer> rest, List<Integer> taken, List<List<Integer>> all) {
        if (rest.isEmpty()) all.add(new ArrayList<>(taken));
        for (Integer one : rest) {
            List<Integer> others = new ArrayList<>(rest);
            others.remove(one);
            taken.add(one);
            orderings(others, taken, all);
            taken.remove(taken.size() - 1);
        }
    }

    private static List<List<Integer>> orderings(List<Integer> row) {
        List<List<Integer>> all = new ArrayList<>();
        orderings(row, new ArrayList<>(), all);
        return all;
    }

    private static int number(List<Integer> order) {
        int number = 0;
        for (int m : order) number = 10 * number + m;
        return number;
    }

    int order(int row, int what) {
        if (!in(row, 0, 1) || !in(what, 0, 1)) return OUTSIDE;
        int fewest = Integer.MAX_VALUE, least = 0;
        Model tried = copy();
        for (List<Integer> order : orderings(rows.get(row))) {
            tried.rows.set(row, order);
            int count = tried.clashes(), n = number(order);
            if (count < fewest || count == fewest && n < least) {
                fewest = count;
                least = n;
            }
        }
        return what == 0 ? fewest : least;
    }

    int start(int what) {
        if (!in(what, 0, 1)) return OUTSIDE;
        int[] counts = new int[21];
        for (int d = 0; d <= 20; d++) {
            Model tried = copy();
            tried.delay[0] = d;
            counts[d] = tried.clashes();
        }
        return fewest(counts, what);
    }

    int door(int v, int what) {
        if (!in(v, 0, 30) || !in(what, 0, 1)) return OUTSIDE;
        int[] counts = new int[17];
        for (int c = 0; c <= 16; c++) {
            Model tried = copy();
            tried.cell[c] += v;
            counts[c] = tried.clashes();
        }
        return fewest(counts, what);
    }

    private static int fewest(int[] counts, int what) {
        int best = 0;
        for (int i = counts.length - 1; i >= 0; i--) {
            if (counts[i] <= counts[best]) best = i;
        }
        for (int i = 0; i < best; i++) {
            if (counts[i] <= counts[best]) best = i;
        }
        return what == 0 ? counts[best] : best;
    }

    int grate(int what) {
        if (!in(what, 0, 2)) return OUTSIDE;
        int[] counts = new int[12];
        for (int k = 0; k < 12; k++) {
            for (int[] two : meetings()) {
                int a = key[rows.get(0).get(two[1])], b = key[rows.get(1).get(two[2])];
                if (a == 12 || b == 12) continue;
                b += k;
                if (b >= 12) b -= 12;
                int apart = a > b ? a - b : b - a;
                if (apart == 1 || apart == 6 || apart == 11) counts[k]++;
            }
        }
        return what == 0 ? counts[0] : fewest(counts, 2 - what);
    }

    int rule(int first, int second) {
        if (!in(first, 0, 9) || !in(second, 0, 9) || first == second) return UNKNOWN;
        if (rules.size() == 10) return FULL;
        rules.add(new int[] {first, second});
        return rules.size();
    }

    int unrule() {
        int had = rules.size();
        rules.clear();
        return had;
    }

    int orders(int row, int what) {
        if (!in(row, 0, 1) || !in(what, 0, 1)) return OUTSIDE;
        int count = 0, least = Integer.MAX_VALUE;
        for (List<Integer> order : orderings(rows.get(row))) {
            boolean hold = true;
            for (int[] rule : rules) {
                int i = order.indexOf(rule[0]), j = order.indexOf(rule[1]);
                if (i >= 0 && j >= 0 && i > j) hold = false;
            }
            if (hold) {
                count++;
                least = Math.min(least, number(order));
            }
        }
        return what == 0 ? count : count == 0 ? NONE : least;
    }

    int seen(int c, int beat) {
        if (!in(c, 0, 16)) return UNKNOWN;
        if (!in(beat, 0, 60)) return OUTSIDE;
        if (sights.size() == 8) return FULL;
        sights.add(new int[] {c, beat});
        return sights.size();
    }

    int forget() {
        int had = sights.size();
        sights.clear();
        return had;
    }

    /** All twos that fit: {row, place, late}. */
    private List<int[]> fitting() {
        List<int[]> all = new ArrayList<>();
        for (int row = 0; row < 2; row++) {
            for (int i = 0; i < rows.get(row).size(); i++) {
                for (int late = 0; late <= 9; late++) {
                    boolean so = true;
                    for (int[] sight : sights) so &= cellAt(row, i, late, sight[1]) == sight[0];
                    if (so) all.add(new int[] {row, i, late});
                }
            }
        }
        return all;
    }

    int who(int what) {
        if (!in(what, 0, 2)) return OUTSIDE;
        int members = 0, lates = 0;
        for (int[] two : fitting()) {
            members |= 1 << rows.get(two[0]).get(two[1]);
            lates |= 1 << two[2];
        }
        return what == 0 ? fitting().size() : what == 1 ? members : lates;
    }

    int look(int what) {
        if (!in(what, 0, 1)) return OUTSIDE;
        List<int[]> all = fitting();
        if (all.isEmpty()) return NONE;
        int[] left = new int[61];
        for (int beat = 0; beat <= 60; beat++) {
            for (int[] two : all) {
                int like = 0;
                for (int[] other : all) {
                    if (cellAt(two[0], two[1], two[2], beat) == cellAt(other[0], other[1], other[2], beat)) like++;
                }
                left[beat] = Math.max(left[beat], like);
            }
        }
        return fewest(left, 1 - what);
    }

    long chance(int t, int k, int part) {
        if (!in(t, 0, 10) || !in(k, 0, 12) || !in(part, 0, 1)) return LOST + OUTSIDE;
        int n = clashes();
        if (n > 12) return LOST + STATE;
        BigInteger upper = BigInteger.ZERO;
        for (int set = 0; set < 1 << n; set++) {
            int stuck = Integer.bitCount(set);
            if (stuck < k) continue;
            upper = upper.add(BigInteger.valueOf(10 - t).pow(stuck).multiply(BigInteger.valueOf(t).pow(n - stuck)));
        }
        BigInteger lower = BigInteger.TEN.pow(n);
        BigInteger common = upper.gcd(lower);
        return (part == 0 ? upper : lower).divide(common).longValueExact();
    }

    int year(int seed, int m, int what) {
        if (!in(seed, 0, 9999) || !in(m, 1, 99) || !in(what, 0, 2)) return OUTSIDE;
        Model after = copy();
        long x = seed;
        for (int i = 0; i < m; i++) {
            x = (75 * x + 74) % 65537;
            int one = (int) (x % 10), by = (int) (x / 10 % 8), other = (int) (x / 80 % 10);
            if (by <= 1) after.act("d", one, -1);
            else if (by <= 3) after.act("u", one, -1);
            else if (by <= 5) after.act("-", one, -1);
            else if (by == 6) after.act("x", one, other);
            else after.act("!", -1, -1);
        }
        if (what == 0) return after.rows.get(0).size() + after.rows.get(1).size();
        return what == 1 ? after.clashes() : after.rung;
    }

    int image(int n) {
        if (!in(n, 0, 1)) return OUTSIDE;
        images[n] = copy();
        return 1;
    }

    int restore(int n) {
        if (!in(n, 0, 1)) return OUTSIDE;
        if (images[n] == null) return STATE;
        Model kept = images[n].copy();
        width = kept.width;
        key = kept.key;
        cell = kept.cell;
        delay = kept.delay;
        rows = kept.rows;
        rung = kept.rung;
        rules = kept.rules;
        sights = kept.sights;
        return 1;
    }

    int told(int what) {
        switch (what) {
            case 0: return pad.length();
            case 1: return rows.get(0).size();
            case 2: return rows.get(1).size();
            case 3: return rung;
            case 4: return rules.size();
            case 5: return sights.size();
            case 6: return delay[0];
            case 7: return delay[1];
            default: break;
        }
        if (in(what, 20, 36)) return cell[what - 20];
        if (in(what, 40, 49)) return width[what - 40];
        if (in(what, 60, 69)) return key[what - 60];
        for (int row = 0; row < 2; row++) {
            int i = what - 80 - 10 * row;
            if (in(i, 0, 5)) return i < rows.get(row).size() ? rows.get(row).get(i) : NONE;
        }
        return OUTSIDE;
    }
}

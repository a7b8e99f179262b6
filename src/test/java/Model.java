import java.math.BigInteger;
import java.util.ArrayList;
import java.util.Arrays;
import java.util.Collections;
import java.util.HashMap;
import java.util.HashSet;
import java.util.List;
import java.util.Map;
import java.util.Set;
import java.util.TreeMap;
import java.util.TreeSet;
import java.util.regex.Matcher;
import java.util.regex.Pattern;

/**
 * The document once more, slowly and by other means: every time an embassy is kept whole, ways are
 * compared as texts, looks are tried out one by one. ModelTest holds FirstLanding against it.
 */
final class Model {
    static final int BAD = -1, FULL = -2, FINDING = -3, STATE = -4, NONE = -9;
    private static final String LETTERS = "gesvck";

    /** An embassy at one time. */
    private record Scene(String kinds, List<List<Integer>> looks, Set<Integer> up, Set<Set<Integer>> treaties) {
        Scene {
            up = new TreeSet<>(up);
            treaties = new HashSet<>(treaties);
            List<List<Integer>> copied = new ArrayList<>();
            for (List<Integer> line : looks) {
                copied.add(new ArrayList<>(line));
            }
            looks = copied;
        }

        Scene same() {
            return new Scene(kinds, looks, up, treaties);
        }
    }

    private final Map<Integer, int[]> rows = new TreeMap<>();
    private final Map<Integer, byte[]> texts = new TreeMap<>();
    private final Map<Integer, List<Scene>> kept = new TreeMap<>();
    private List<Scene> times = new ArrayList<>();
    int asked = 0;
    BigInteger upper = BigInteger.ZERO;
    BigInteger lower = BigInteger.ONE;
    int finding = 0;
    final int[] found = new int[6];

    private int find(int f) {
        finding = f;
        found[f]++;
        return FINDING;
    }

    private Scene now() {
        return times.get(times.size() - 1);
    }

    int people() {
        return times.isEmpty() ? 0 : now().kinds.length();
    }

    private boolean nobody(int a) {
        return a < 0 || a >= people();
    }

    private boolean noSet(int set) {
        return set < 0 || set >= Math.pow(2, people());
    }

    private static boolean noRow(int r) {
        return r < 0 || r > 5;
    }

    private static boolean noText(int t) {
        return t < 0 || t > 3;
    }

    private List<Integer> members(int set) {
        List<Integer> who = new ArrayList<>();
        for (int a = 0; a < people(); a++) {
            if (BigInteger.valueOf(set).testBit(a)) {
                who.add(a);
            }
        }
        return who;
    }

    int row(int r, int n) {
        if (noRow(r) || n > 40) return BAD;
        if (n < 0) return find(5);
        rows.put(r, new int[n]);
        return n;
    }

    int lay(int r, int i, int v) {
        int got = at(r, i);
        if (got == 1) rows.get(r)[i] = v;
        return got;
    }

    int at(int r, int i) {
        if (noRow(r)) return BAD;
        if (!rows.containsKey(r)) return find(1);
        if (i < 0 || i >= rows.get(r).length) return find(2);
        asked = rows.get(r)[i];
        return 1;
    }

    int tear(int r) {
        if (noRow(r)) return BAD;
        return rows.remove(r) == null ? find(1) : 1;
    }

    int copy(int r, int i, int to, int j, int n) {
        if (noRow(r) || noRow(to)) return BAD;
        if (n < 0) return find(5);
        if (!rows.containsKey(r) || !rows.containsKey(to)) return find(1);
        if (i < 0 || j < 0 || (long) i + n > rows.get(r).length || (long) j + n > rows.get(to).length) return find(2);
        int[] taken = rows.get(r).clone();
        for (int k = 0; k < n; k++) rows.get(to)[j + k] = taken[i + k];
        return 1;
    }

    int mean(int r) {
        if (noRow(r)) return BAD;
        if (!rows.containsKey(r)) return find(1);
        if (rows.get(r).length == 0) return find(4);
        BigInteger sum = BigInteger.ZERO;
        for (int v : rows.get(r)) sum = sum.add(BigInteger.valueOf(v));
        asked = sum.divide(BigInteger.valueOf(rows.get(r).length)).intValueExact();
        return 1;
    }

    int text(int t, int n) {
        if (noText(t) || n > 60) return BAD;
        if (n < 0) return find(5);
        texts.put(t, " ".repeat(n).getBytes());
        return n;
    }

    int put(int t, int i, int v) {
        if (noText(t)) return BAD;
        if (!texts.containsKey(t)) return find(1);
        if (i < 0 || i >= texts.get(t).length) return find(2);
        int was = texts.get(t)[i];
        texts.get(t)[i] = (byte) v;
        return was + 1000;
    }

    private static final Pattern EMBASSY = embassyPattern();

    private static Pattern embassyPattern() {
        StringBuilder all = new StringBuilder();
        for (int n = 2; n <= 6; n++) {
            all.append(n == 2 ? "" : "|").append("n" + n + "( *[" + LETTERS + "][0-9]{" + n + "}){" + n + "}");
        }
        return Pattern.compile(" *(" + all + ") *");
    }

    private static int faultOf(byte[] bytes) {
        String signs = new String(bytes, java.nio.charset.StandardCharsets.ISO_8859_1);
        for (int i = 0; i < signs.length(); i++) {
            Matcher m = EMBASSY.matcher(signs.substring(0, i + 1));
            if (!m.matches() && !m.hitEnd()) return i;
        }
        return EMBASSY.matcher(signs).matches() ? NONE : signs.length();
    }

    int fault(int t) {
        if (noText(t)) return BAD;
        return texts.containsKey(t) ? faultOf(texts.get(t)) : find(1);
    }

    int embassy(int t) {
        if (noText(t)) return BAD;
        if (!texts.containsKey(t)) return find(1);
        if (faultOf(texts.get(t)) != NONE) return STATE;
        String dense = new String(texts.get(t)).replace(" ", "");
        int n = dense.charAt(1) - '0';
        StringBuilder kinds = new StringBuilder();
        List<List<Integer>> looks = new ArrayList<>();
        for (int a = 0; a < n; a++) {
            String one = dense.substring(2 + a * (n + 1), 2 + (a + 1) * (n + 1));
            kinds.append(one.charAt(0));
            List<Integer> line = new ArrayList<>();
            for (char figure : one.substring(1).toCharArray()) line.add(figure - '0');
            looks.add(line);
        }
        times = new ArrayList<>();
        times.add(new Scene(kinds.toString(), looks, Set.of(), Set.of()));
        kept.clear();
        return n;
    }

    private int seem(char kind, List<Integer> line, int a, List<Integer> set) {
        List<Integer> with = new ArrayList<>();
        for (int b : set) {
            if (b != a) with.add(line.get(b));
        }
        if (with.isEmpty()) return 0;
        switch (kind) {
            case 'e':
                return Collections.max(with);
            case 's':
                return Collections.min(with);
            case 'v':
                return with.get(0);
            case 'c':
                return Collections.max(with) == 0 ? 0 : Math.min(9, 1 + Collections.max(with));
            case 'k':
                return with.stream().filter(v -> v > 0).min(Integer::compare).orElse(0);
            default:
                return with.stream().mapToInt(v -> v).sum() / with.size();
        }
    }

    private int seem(int a, List<Integer> set) {
        return seem(now().kinds.charAt(a), now().looks.get(a), a, set);
    }

    private List<Integer> up() {
        return new ArrayList<>(now().up);
    }

    private boolean agreed(int a, int b, List<Integer> set) {
        if (!set.contains(a) || !set.contains(b)) return false;
        int one = seem(a, set);
        int other = seem(b, set);
        return one != 0 && other != 0 && one - other <= 1 && other - one <= 1;
    }

    private List<Integer> agreedPairs(List<Integer> set) {
        List<Integer> pairs = new ArrayList<>();
        for (int a : set) {
            for (int b : set) {
                if (a < b && agreed(a, b, set)) pairs.add(6 * a + b);
            }
        }
        return pairs;
    }

    private int value(int a, int what) {
        switch (what) {
            case 0:
                return LETTERS.indexOf(now().kinds.charAt(a));
            case 1:
                return now().up.contains(a) ? 1 : 0;
            case 2:
                return seem(a, up());
            case 3:
                return (int) now().treaties.stream().filter(pair -> pair.contains(a)).count();
            default:
                return zeros(a);
        }
    }

    private int zeros(int a) {
        int many = 0;
        for (int b = 0; b < people(); b++) {
            if (a != b && now().looks.get(a).get(b) == 0) many++;
        }
        return many;
    }

    int person(int a, int what) {
        if (nobody(a) || what < 0 || what > 4) return BAD;
        asked = value(a, what);
        return 1;
    }

    int looks(int a, int b) {
        return nobody(a) || nobody(b) ? BAD : now().looks.get(a).get(b);
    }

    private String kindsThatAre(int kind) {
        return new String[] {LETTERS, "ec", "sk", "v", "c", "k"}[kind];
    }

    private int howMany(String letters) {
        return (int) (people() == 0 ? 0 : now().kinds.chars().filter(k -> letters.indexOf(k) >= 0).count());
    }

    int mark(int a, int kind) {
        if (nobody(a) || kind < 1 || kind > 5) return BAD;
        if (kindsThatAre(kind).indexOf(now().kinds.charAt(a)) < 0) return find(3);
        List<Integer> others = members((1 << people()) - 1);
        others.remove(Integer.valueOf(a));
        List<Integer> line = now().looks.get(a);
        switch (kind) {
            case 1:
                others.sort((p, q) -> line.get(q) - line.get(p));
                return others.get(0);
            case 2:
                others.sort((p, q) -> line.get(p) - line.get(q));
                return others.get(0);
            case 3:
                return (int) others.stream().filter(b -> seem(a, List.of(b)) == 0).count();
            case 4:
                return howMany("c");
            default:
                return (int) others.stream().filter(b -> now().looks.get(b).get(a) == 0).count();
        }
    }

    private int deeds() {
        return Math.max(0, times.size() - 1);
    }

    private void flip(int a) {
        Scene next = now().same();
        if (!next.up.remove(a)) next.up.add(a);
        times.add(next);
    }

    int step(int a) {
        if (nobody(a)) return BAD;
        if (deeds() == 40) return FULL;
        flip(a);
        return now().up.size();
    }

    private int zeros() {
        int many = 0;
        for (int a = 0; a < people(); a++) many += zeros(a);
        return many;
    }

    int meet(int a, int b, int looks) {
        if (nobody(a) || nobody(b) || a == b || looks < 1 || looks > 9) return BAD;
        if (now().looks.get(a).get(b) != 0) return STATE;
        if (deeds() == 40) return FULL;
        Scene next = now().same();
        next.looks.get(a).set(b, looks);
        times.add(next);
        return zeros();
    }

    private boolean canTreat(int a, int b) {
        return a != b && !now().treaties.contains(Set.of(a, b)) && agreed(a, b, up());
    }

    private void bind(int a, int b) {
        Scene next = now().same();
        next.treaties.add(Set.of(a, b));
        times.add(next);
    }

    int treat(int a, int b) {
        if (nobody(a) || nobody(b) || a == b) return BAD;
        if (!canTreat(a, b)) return STATE;
        if (deeds() == 40) return FULL;
        bind(a, b);
        return now().treaties.size();
    }

    int undo(int n) {
        if (n < 0 || n >= deeds()) return BAD;
        int many = deeds() - n;
        times = new ArrayList<>(times.subList(0, n + 1));
        return many;
    }

    int keep(int k) {
        if (k < 0 || k > 2) return BAD;
        if (people() == 0) return STATE;
        kept.put(k, new ArrayList<>(times));
        return deeds();
    }

    int on(int k) {
        if (k < 0 || k > 2) return BAD;
        if (!kept.containsKey(k)) return find(1);
        times = new ArrayList<>(kept.get(k));
        return deeds();
    }

    int seems(int a, int set) {
        return nobody(a) || noSet(set) ? BAD : seem(a, members(set));
    }

    int there(int set) {
        if (noSet(set)) return BAD;
        return members(set).stream().filter(a -> seem(a, members(set)) != 0).mapToInt(a -> 1 << a).sum();
    }

    int agree(int set) {
        if (noSet(set)) return BAD;
        List<Integer> pairs = agreedPairs(members(set));
        asked = pairs.isEmpty() ? NONE : pairs.get(0);
        return pairs.size();
    }

    int well() {
        if (people() == 0) return STATE;
        for (int many = people(); many > 0; many--) {
            for (int set = 0; set < 1 << people(); set++) {
                if (members(set).size() == many && agreedPairs(members(set)).size() * 2 == many * (many - 1)) {
                    asked = set;
                    return many;
                }
            }
        }
        throw new IllegalStateException();
    }

    int add(int set) {
        if (noSet(set)) return BAD;
        for (int most = 15; most >= 0; most--) {
            for (int a = 0; a < people(); a++) {
                if (!members(set).contains(a) && agreedPairs(members(set + (1 << a))).size() == most) {
                    asked = most;
                    return a;
                }
            }
        }
        return NONE;
    }

    int worst(int set) {
        if (noSet(set)) return BAD;
        for (int most = 9; most >= 0; most--) {
            for (int a : members(set)) {
                for (int b : members(set)) {
                    int one = seem(a, members(set));
                    int other = seem(b, members(set));
                    if (a < b && one > 0 && other > 0 && Math.abs(one - other) == most) {
                        asked = most;
                        return 6 * a + b;
                    }
                }
            }
        }
        return NONE;
    }

    int steps(int r) {
        if (noRow(r)) return BAD;
        if (people() == 0) return STATE;
        if (!rows.containsKey(r)) return find(1);
        int[] row = rows.get(r);
        if (!List.of(2, 4, 6, 8).contains(row.length)) return find(5);
        for (int i = 0; i < row.length; i += 2) {
            if (nobody(row[i]) || nobody(row[i + 1]) || row[i] == row[i + 1]) return find(3);
        }
        Map<String, String> level = new HashMap<>();
        Set<String> seen = new HashSet<>();
        level.put(stateAfter(new TreeSet<>(now().up), new TreeSet<>(), row), "");
        for (int far = 0; !level.isEmpty(); far++) {
            String best = null;
            for (Map.Entry<String, String> e : level.entrySet()) {
                if (e.getKey().endsWith("/" + row.length / 2) && (best == null || e.getValue().compareTo(best) < 0)) best = e.getValue();
            }
            if (best != null) {
                asked = far == 0 ? NONE : best.charAt(0) - '0';
                return far;
            }
            seen.addAll(level.keySet());
            level = nextLevel(level, seen, row);
        }
        return NONE;
    }

    private Map<String, String> nextLevel(Map<String, String> level, Set<String> seen, int[] row) {
        Map<String, String> next = new HashMap<>();
        for (Map.Entry<String, String> e : level.entrySet()) {
            String[] parts = e.getKey().split("/", -1);
            for (int a = 0; a < people(); a++) {
                TreeSet<Integer> up = figures(parts[0]);
                if (!up.remove(a)) up.add(a);
                String state = stateAfter(up, figures(parts[1]), row);
                String way = e.getValue() + a;
                if (!seen.contains(state)) next.merge(state, way, (p, q) -> p.compareTo(q) < 0 ? p : q);
            }
        }
        return next;
    }

    private static TreeSet<Integer> figures(String signs) {
        TreeSet<Integer> all = new TreeSet<>();
        for (char c : signs.toCharArray()) all.add(c - '0');
        return all;
    }

    private String stateAfter(TreeSet<Integer> up, TreeSet<Integer> had, int[] row) {
        for (int i = 0; i < row.length; i += 2) {
            if (agreed(row[i], row[i + 1], new ArrayList<>(up))) had.add(i / 2);
        }
        StringBuilder state = new StringBuilder();
        up.forEach(state::append);
        state.append('/');
        had.forEach(state::append);
        return state.append('/').append(had.size()).toString();
    }

    int meetings(int a, int set, int v) {
        if (nobody(a) || noSet(set) || v < 0 || v > 9) return BAD;
        return tryMeetings(a, members(set), v, new ArrayList<>(now().looks.get(a)), 0);
    }

    /** Tries all looks to those from b on; the fewest that had to be made. */
    private int tryMeetings(int a, List<Integer> set, int v, List<Integer> line, int b) {
        if (b == people()) return seem(now().kinds.charAt(a), line, a, set) == v ? 0 : NONE;
        int best = tryMeetings(a, set, v, line, b + 1);
        if (b != a && set.contains(b) && line.get(b) == 0) {
            for (int made = 1; made <= 9; made++) {
                line.set(b, made);
                int more = tryMeetings(a, set, v, line, b + 1);
                if (more != NONE && (best == NONE || more + 1 < best)) best = more + 1;
            }
            line.set(b, 0);
        }
        return best;
    }

    private int wrongNotes(int r) {
        if (!rows.containsKey(r)) return 1;
        int[] row = rows.get(r);
        if (row.length % 2 == 1 || row.length > 12) return 5;
        for (int i = 0; i < row.length; i += 2) {
            if (noSet(row[i]) || row[i + 1] < 0 || row[i + 1] > 9) return 3;
        }
        return 0;
    }

    private boolean noted(int a, char kind, List<Integer> line, int r) {
        int[] row = rows.get(r);
        for (int i = 0; i < row.length; i += 2) {
            if (seem(kind, line, a, members(row[i])) != row[i + 1]) return false;
        }
        return true;
    }

    int fits(int a, int b, int r) {
        if (nobody(a) || nobody(b) || a == b || noRow(r)) return BAD;
        if (wrongNotes(r) != 0) return find(wrongNotes(r));
        int bits = 0;
        for (int v = 0; v <= 9; v++) {
            List<Integer> line = new ArrayList<>(now().looks.get(a));
            line.set(b, v);
            if (noted(a, now().kinds.charAt(a), line, r)) bits += 1 << v;
        }
        return bits;
    }

    int kinds(int a, int r) {
        if (nobody(a) || noRow(r)) return BAD;
        if (wrongNotes(r) != 0) return find(wrongNotes(r));
        int bits = 0;
        for (int k = 0; k < 6; k++) {
            if (noted(a, LETTERS.charAt(k), now().looks.get(a), r)) bits += 1 << k;
        }
        return bits;
    }

    int tells(int a) {
        if (nobody(a)) return BAD;
        for (int most = 6; most > 0; most--) {
            for (int set = 0; set < 1 << people(); set++) {
                Set<Integer> sorts = new HashSet<>();
                for (char kind : LETTERS.toCharArray()) sorts.add(seem(kind, now().looks.get(a), a, members(set)));
                if (sorts.size() == most) {
                    asked = most;
                    return set;
                }
            }
        }
        throw new IllegalStateException();
    }

    int knows(int a, int n) {
        if (nobody(a) || n < 0 || n > 9) return BAD;
        int bits = 0;
        for (int b = 0; b < people(); b++) {
            int far = hears(a, b);
            if (far != NONE && far <= n) bits += 1 << b;
        }
        return bits;
    }

    /** By the shortest ways between all, one more go-between allowed each time. */
    int hears(int a, int b) {
        if (nobody(a) || nobody(b)) return BAD;
        int n = people();
        int[][] far = new int[n][n];
        for (int p = 0; p < n; p++) {
            for (int q = 0; q < n; q++) far[p][q] = p == q ? 0 : now().looks.get(q).get(p) > 0 ? 1 : 100;
        }
        for (int m = 0; m < n; m++) {
            for (int p = 0; p < n; p++) {
                for (int q = 0; q < n; q++) far[p][q] = Math.min(far[p][q], far[p][m] + far[m][q]);
            }
        }
        return far[a][b] >= 100 ? NONE : far[a][b];
    }

    int missions(int n) {
        if (n < 0 || n > 2) return BAD;
        if (people() == 0) return STATE;
        return send(new TreeSet<>(now().up), n, n);
    }

    private int send(TreeSet<Integer> up, int firsts, int others) {
        if (firsts + others == 0) return agreedPairs(new ArrayList<>(up)).size();
        boolean first = firsts == others;
        List<Integer> ends = new ArrayList<>();
        for (int a = 0; a < people(); a++) {
            if (!up.contains(a)) {
                TreeSet<Integer> more = new TreeSet<>(up);
                more.add(a);
                ends.add(send(more, first ? firsts - 1 : firsts, first ? others : others - 1));
            }
        }
        if (ends.isEmpty()) return send(up, first ? firsts - 1 : firsts, first ? others : others - 1);
        return first ? Collections.max(ends) : Collections.min(ends);
    }

    int mid(int a, int p) {
        return weighed(a, p, false);
    }

    int odds(int a, int p) {
        return weighed(a, p, true);
    }

    private int weighed(int a, int p, boolean there) {
        if (nobody(a) || p < 0 || p > 12) return BAD;
        if (!now().up.contains(a)) return STATE;
        List<Integer> others = up();
        others.remove(Integer.valueOf(a));
        // All 12 chances of each other one are told apart: below p one has gone.
        long all = Math.round(Math.pow(12, others.size()));
        long sum = 0;
        for (long chance = 0; chance < all; chance++) {
            List<Integer> stay = new ArrayList<>();
            long rest = chance;
            for (int b : others) {
                if (rest % 12 >= p) stay.add(b);
                rest /= 12;
            }
            int seemed = seem(a, stay);
            sum += there ? (seemed > 0 ? 1 : 0) : seemed;
        }
        BigInteger gcd = BigInteger.valueOf(sum).gcd(BigInteger.valueOf(all));
        upper = BigInteger.valueOf(sum).divide(gcd);
        lower = BigInteger.valueOf(all).divide(gcd);
        return 1;
    }

    int lots(int n, int seed) {
        if (n < 1 || n > 20 || seed < 1 || seed > 2147483646) return BAD;
        if (people() == 0) return STATE;
        if (deeds() + n > 40) return FULL;
        BigInteger lot = BigInteger.valueOf(seed);
        for (int i = 0; i < n; i++) {
            lot = lot.multiply(BigInteger.valueOf(48271)).mod(BigInteger.valueOf(2147483647));
            int number = lot.intValueExact();
            int a = number % people();
            int b = number / 64 % people();
            if (number / 8 % 4 == 0 && canTreat(a, b)) bind(a, b);
            else flip(a);
        }
        return now().treaties.size();
    }

    int count(int what) {
        boolean none = people() == 0;
        switch (what) {
            case 0:
                return people();
            case 1:
                return none ? 0 : up().stream().mapToInt(a -> 1 << a).sum();
            case 2:
                return deeds();
            case 3:
                return none ? 0 : now().treaties.size();
            case 4:
                return zeros();
            case 5:
                return howMany("ec");
            case 6:
                return howMany("sk");
            case 7:
                return rows.size();
            case 8:
                return texts.size();
            case 9:
                return kept.size();
            default:
                return BAD;
        }
    }

    int findings(int f) {
        return f < 1 || f > 5 ? BAD : found[f];
    }

    long digest() {
        List<Long> values = new ArrayList<>();
        for (int what = 0; what <= 9; what++) values.add((long) count(what));
        for (int a = 0; a < people(); a++) {
            for (int what = 0; what <= 4; what++) values.add((long) value(a, what));
            for (int look : now().looks.get(a)) values.add((long) look);
        }
        for (int k = 0; k < 3; k++) values.add(kept.containsKey(k) ? kept.get(k).size() - 1L : -1L);
        for (int r = 0; r < 6; r++) {
            values.add(rows.containsKey(r) ? rows.get(r).length : -1L);
            for (int v : rows.getOrDefault(r, new int[0])) values.add((long) v);
        }
        for (int t = 0; t < 4; t++) {
            values.add(texts.containsKey(t) ? texts.get(t).length : -1L);
            for (byte v : texts.getOrDefault(t, new byte[0])) values.add((long) v);
        }
        long h = 17;
        for (long v : values) h = 31 * h + v;
        return h;
    }

    @Override
    public String toString() {
        return (people() == 0 ? "no people" : now().toString()) + " " + Arrays.toString(found);
    }
}

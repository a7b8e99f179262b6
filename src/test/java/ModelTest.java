import java.util.Random;

/**
 * Runs of calls by chance (always the same ones): FirstLanding answers as the Model does. What is told is
 * asked behind each call, so that an object gets more than 512 calls; this class has no such bound.
 */
public final class ModelTest {
    private static final int RUNS = 1500, CALLS = 300;
    private static final int[] WILD = {Integer.MIN_VALUE, -1000, -2, -1, 64, 100, 1 << 20, Integer.MAX_VALUE};

    private final Random random;
    private final FirstLanding x = new FirstLanding();
    private final Model m = new Model();
    private final StringBuilder calls = new StringBuilder();

    private ModelTest(int seed) {
        random = new Random(seed);
    }

    public static void main(String[] args) {
        int wrong = 0;
        for (int run = 0; run < RUNS && wrong < 5; run++) {
            if (!new ModelTest(run).run()) {
                wrong++;
            }
        }
        System.out.println("ModelTest: " + RUNS + " runs, " + wrong + " not as due");
        if (wrong != 0) {
            System.exit(1);
        }
    }

    private boolean run() {
        boolean right = random.nextInt(10) == 0 || writeEmbassy();
        for (int i = 0; i < CALLS && right; i++) {
            right = random.nextInt(60) == 0 ? writeEmbassy() : random.nextInt(12) == 0 ? writeRow() : call();
        }
        if (!right) {
            System.out.println(calls);
        }
        return right;
    }

    private boolean same(String call, long got, long want) {
        calls.append(call).append(" = ").append(got).append('\n');
        boolean right = got == want && x.asked() == m.asked && x.finding() == m.finding
            && x.upper() == m.upper.longValueExact() && x.lower() == m.lower.longValueExact()
            && x.digest() == m.digest();
        for (int f = 0; f <= 6; f++) {
            right &= x.findings(f) == m.findings(f);
        }
        if (!right) {
            calls.append("due is ").append(want).append(", asked ").append(m.asked).append(' ').append(m).append('\n');
        }
        return right;
    }

    private int upTo(int most) {
        return random.nextInt(25) == 0 ? odd(most) : random.nextInt(most + 1);
    }

    private int odd(int most) {
        return random.nextBoolean() ? most + 1 : WILD[random.nextInt(WILD.length)];
    }

    private int one() {
        return upTo(Math.max(0, m.people() - 1));
    }

    private int set() {
        return upTo((1 << m.people()) - 1);
    }

    private boolean writeEmbassy() {
        int n = 2 + random.nextInt(5);
        StringBuilder signs = new StringBuilder(blanks()).append('n').append(n);
        int zeros = random.nextInt(4);
        for (int a = 0; a < n; a++) {
            signs.append(blanks()).append("gesvck".charAt(random.nextInt(6)));
            for (int b = 0; b < n; b++) {
                signs.append(random.nextInt(4) < zeros ? 0 : random.nextInt(2 + random.nextInt(9)));
            }
        }
        signs.append(blanks());
        if (random.nextInt(6) == 0) {
            signs.setCharAt(random.nextInt(signs.length()), " n27gx09:/\u00e9".charAt(random.nextInt(11)));
        }
        if (random.nextInt(12) == 0) {
            signs.setLength(random.nextInt(signs.length()));
        }
        int t = random.nextInt(4);
        int size = Math.min(60, signs.length());
        boolean right = same("text(" + t + ", " + size + ")", x.text(t, size), m.text(t, size));
        for (int i = 0; i < size && right; i++) {
            int v = signs.charAt(i);
            right = same("put(" + t + ", " + i + ", " + v + ")", x.put(t, i, v), m.put(t, i, v));
        }
        return right && same("fault(" + t + ")", x.fault(t), m.fault(t))
            && same("embassy(" + t + ")", x.embassy(t), m.embassy(t));
    }

    private String blanks() {
        return " ".repeat(Math.max(0, random.nextInt(5) - 2));
    }

    /** A row that is fit for pairs, for notes that are true of somebody, or for nothing. */
    private boolean writeRow() {
        int r = random.nextInt(6);
        int size = random.nextInt(8) == 0 ? random.nextInt(41) : 2 * random.nextInt(5);
        boolean right = same("row(" + r + ", " + size + ")", x.row(r, size), m.row(r, size));
        int sort = random.nextInt(8);
        int who = one();
        for (int i = 0; i < size && right; i++) {
            int set = set();
            int v = sort == 0 ? random.nextInt() : sort < 4 ? one() : i % 2 == 0 ? set : random.nextInt(10);
            right = lay(r, i, v);
            if (sort > 4 && i % 2 == 0 && i + 1 < size && right) {
                right = lay(r, i, set) && lay(r, i + 1, Math.max(0, m.seems(who, set)));
                i++;
            }
        }
        return right;
    }

    private boolean lay(int r, int i, int v) {
        return same("lay(" + r + ", " + i + ", " + v + ")", x.lay(r, i, v), m.lay(r, i, v));
    }

    private boolean call() {
        int a = one();
        int b = one();
        int set = set();
        int r = upTo(5);
        switch (random.nextInt(41)) {
            case 0: {
                int n = upTo(40);
                return same("row(" + r + ", " + n + ")", x.row(r, n), m.row(r, n));
            }
            case 1: {
                int i = upTo(12);
                return lay(r, i, a);
            }
            case 2: {
                int i = upTo(12);
                return same("at(" + r + ", " + i + ")", x.at(r, i), m.at(r, i));
            }
            case 3:
                return random.nextInt(3) != 0 || same("tear(" + r + ")", x.tear(r), m.tear(r));
            case 4: {
                int i = upTo(8);
                int j = upTo(8);
                int to = upTo(5);
                int n = upTo(8);
                return same("copy(" + r + ", " + i + ", " + to + ", " + j + ", " + n + ")",
                    x.copy(r, i, to, j, n), m.copy(r, i, to, j, n));
            }
            case 5:
                return same("mean(" + r + ")", x.mean(r), m.mean(r));
            case 6: {
                int t = upTo(3);
                int n = upTo(60);
                return random.nextInt(4) != 0 || same("text(" + t + ", " + n + ")", x.text(t, n), m.text(t, n));
            }
            case 7: {
                int t = upTo(3);
                int i = upTo(59);
                int v = random.nextInt(2000) - 1000;
                return same("put(" + t + ", " + i + ", " + v + ")", x.put(t, i, v), m.put(t, i, v));
            }
            case 8: {
                int t = upTo(3);
                return same("fault(" + t + ")", x.fault(t), m.fault(t));
            }
            case 9: {
                int t = upTo(3);
                return random.nextInt(6) != 0 || same("embassy(" + t + ")", x.embassy(t), m.embassy(t));
            }
            case 10: {
                int what = upTo(4);
                return same("person(" + a + ", " + what + ")", x.person(a, what), m.person(a, what));
            }
            case 11:
                return same("looks(" + a + ", " + b + ")", x.looks(a, b), m.looks(a, b));
            case 12:
            case 13: {
                int kind = upTo(5);
                return same("mark(" + a + ", " + kind + ")", x.mark(a, kind), m.mark(a, kind));
            }
            case 14:
            case 15:
            case 16:
                return same("step(" + a + ")", x.step(a), m.step(a));
            case 17: {
                int looks = upTo(9);
                return same("meet(" + a + ", " + b + ", " + looks + ")", x.meet(a, b, looks), m.meet(a, b, looks));
            }
            case 18:
            case 19:
                return same("treat(" + a + ", " + b + ")", x.treat(a, b), m.treat(a, b));
            case 20: {
                int n = random.nextInt(3) == 0 ? upTo(40) : m.count(2) - random.nextInt(3);
                return same("undo(" + n + ")", x.undo(n), m.undo(n));
            }
            case 21: {
                int k = upTo(2);
                return same("keep(" + k + ")", x.keep(k), m.keep(k));
            }
            case 22: {
                int k = upTo(2);
                return same("on(" + k + ")", x.on(k), m.on(k));
            }
            default:
                return ask(a, b, set, r);
        }
    }

    private boolean ask(int a, int b, int set, int r) {
        switch (random.nextInt(18)) {
            case 0:
                return same("seems(" + a + ", " + set + ")", x.seems(a, set), m.seems(a, set));
            case 1:
                return same("there(" + set + ")", x.there(set), m.there(set));
            case 2:
                return same("agree(" + set + ")", x.agree(set), m.agree(set));
            case 3:
                return same("well()", x.well(), m.well());
            case 4:
                return same("add(" + set + ")", x.add(set), m.add(set));
            case 5:
                return same("worst(" + set + ")", x.worst(set), m.worst(set));
            case 6:
                return same("steps(" + r + ")", x.steps(r), m.steps(r));
            case 7: {
                int v = upTo(9);
                return same("meetings(" + a + ", " + set + ", " + v + ")", x.meetings(a, set, v), m.meetings(a, set, v));
            }
            case 8:
                return same("fits(" + a + ", " + b + ", " + r + ")", x.fits(a, b, r), m.fits(a, b, r));
            case 9:
                return same("kinds(" + a + ", " + r + ")", x.kinds(a, r), m.kinds(a, r));
            case 10:
                return same("tells(" + a + ")", x.tells(a), m.tells(a));
            case 11: {
                int n = upTo(9);
                return same("knows(" + a + ", " + n + ")", x.knows(a, n), m.knows(a, n));
            }
            case 12:
                return same("hears(" + a + ", " + b + ")", x.hears(a, b), m.hears(a, b));
            case 13: {
                int n = upTo(2);
                return same("missions(" + n + ")", x.missions(n), m.missions(n));
            }
            case 14: {
                int p = upTo(12);
                return same("mid(" + a + ", " + p + ")", x.mid(a, p), m.mid(a, p));
            }
            case 15: {
                int p = upTo(12);
                return same("odds(" + a + ", " + p + ")", x.odds(a, p), m.odds(a, p));
            }
            case 16: {
                int n = upTo(20);
                int seed = random.nextInt(8) == 0 ? odd(0) : 1 + random.nextInt(2147483646);
                return same("lots(" + n + ", " + seed + ")", x.lots(n, seed), m.lots(n, seed));
            }
            default: {
                int what = upTo(9);
                return same("count(" + what + ")", x.count(what), m.count(what));
            }
        }
    }
}

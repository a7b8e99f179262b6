/** What the project's tests share: rows of answers that are due, and embassies written as texts. */
final class Due {
    private int right = 0;
    private int wrong = 0;

    void is(String what, long got, long want) {
        if (got == want) {
            right++;
        } else {
            wrong++;
            System.out.println(what + " answered " + got + ", due is " + want);
        }
    }

    int wrong() {
        return wrong;
    }

    /** An answer, and what asked() tells then. */
    void asked(FirstLanding x, String what, long got, long want, long asked) {
        is(what, got, want);
        is(what + ", asked()", x.asked(), asked);
    }

    void ratio(FirstLanding x, String what, long got, long upper, long lower) {
        is(what, got, 1);
        is(what + ", upper()", x.upper(), upper);
        is(what + ", lower()", x.lower(), lower);
    }

    /** A call that is refused with a FINDING: which one, counted once more, and nothing else changed. */
    void finding(FirstLanding x, String what, java.util.function.IntSupplier call, int which) {
        long before = state(x);
        int[] times = new int[6];
        for (int f = 1; f <= 5; f++) {
            times[f] = x.findings(f);
        }
        is(what, call.getAsInt(), FirstLanding.FINDING);
        is(what + ", finding()", x.finding(), which);
        for (int f = 1; f <= 5; f++) {
            is(what + ", findings(" + f + ")", x.findings(f), times[f] + (f == which ? 1 : 0));
        }
        is(what + ", all else", state(x), before);
    }

    /** A call that is refused otherwise: nothing changes, finding() and findings() neither. */
    void refused(FirstLanding x, String what, java.util.function.IntSupplier call, int want) {
        long before = told(x);
        is(what, call.getAsInt(), want);
        is(what + ", all that is told", told(x), before);
    }

    /** All that is told, but for finding() and findings(). */
    static long state(FirstLanding x) {
        long h = x.digest();
        h = 31 * h + x.asked();
        h = 31 * h + x.upper();
        return 31 * h + x.lower();
    }

    static long told(FirstLanding x) {
        long h = 31 * state(x) + x.finding();
        for (int f = 1; f <= 5; f++) {
            h = 31 * h + x.findings(f);
        }
        return h;
    }

    void end(String name) {
        System.out.println(name + ": " + right + " answers as due, " + wrong + " not");
        if (wrong != 0) {
            System.exit(1);
        }
    }

    static FirstLanding embassy(String signs) {
        FirstLanding x = new FirstLanding();
        write(x, 0, signs);
        int people = x.embassy(0);
        if (people < 2) {
            throw new IllegalStateException("no embassy: " + signs + " (" + people + ")");
        }
        return x;
    }

    static void write(FirstLanding x, int t, String signs) {
        x.text(t, signs.length());
        for (int i = 0; i < signs.length(); i++) {
            x.put(t, i, signs.charAt(i));
        }
    }

    static void row(FirstLanding x, int r, int... places) {
        x.row(r, places.length);
        for (int i = 0; i < places.length; i++) {
            x.lay(r, i, places[i]);
        }
    }
}

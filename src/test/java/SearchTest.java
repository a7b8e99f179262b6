/** Promises 27, 28: the fewest steps by which told pairs have agreed, the fewest meetings. */
public final class SearchTest {
    private static final int NOTHING = 1, UNLIKE = 3, SIZE = 5;
    private static final Due DUE = new Due();

    public static void main(String[] args) {
        steps();
        stepsWrongly();
        meetings();
        DUE.end("SearchTest");
    }

    private static void steps() {
        FirstLanding x = Due.embassy("n4v0300v5055v0404v0240");
        Due.row(x, 0, 2, 1);
        DUE.asked(x, "1 and 2: both go up", x.steps(0), 2, 1);
        Due.row(x, 0, 1, 2, 3, 2);
        DUE.asked(x, "2, 3, then 1 go up", x.steps(0), 3, 2);
        x.step(1);
        x.step(3);
        DUE.asked(x, "with 1, 3 up: 2 up, 1 down", x.steps(0), 2, 2);
        x.step(2);
        DUE.asked(x, "1 and 2 agree now: 1 down", x.steps(0), 1, 1);
        Due.row(x, 0, 1, 2);
        DUE.asked(x, "none is needed", x.steps(0), 0, FirstLanding.NONE);
        Due.row(x, 0, 0, 2);
        x.at(0, 1);
        DUE.asked(x, "0 and 2: never both there", x.steps(0), FirstLanding.NONE, 2);
        Due.row(x, 0, 1, 2, 2, 1, 1, 2, 1, 2);
        DUE.asked(x, "one pair four times", x.steps(0), 0, FirstLanding.NONE);
        FirstLanding full = Due.embassy("n2g05g50");
        for (int i = 0; i < 40; i++) {
            full.step(0);
        }
        Due.row(full, 1, 0, 1);
        DUE.asked(full, "steps aside are no deeds", full.steps(1), 2, 0);
        DUE.is("they are not done", full.count(1), 0);
    }

    private static void stepsWrongly() {
        FirstLanding x = new FirstLanding();
        DUE.refused(x, "steps(6) without people", () -> x.steps(6), FirstLanding.BAD);
        DUE.refused(x, "steps(0) without people", () -> x.steps(0), FirstLanding.STATE);
        Due.write(x, 0, "n3g055g505g550");
        x.embassy(0);
        DUE.refused(x, "steps(-1)", () -> x.steps(-1), FirstLanding.BAD);
        DUE.finding(x, "a missing row", () -> x.steps(0), NOTHING);
        Due.row(x, 0);
        DUE.finding(x, "no pair", () -> x.steps(0), SIZE);
        Due.row(x, 0, 0, 1, 2);
        DUE.finding(x, "one and a half pairs", () -> x.steps(0), SIZE);
        Due.row(x, 0, 0, 1, 0, 1, 0, 1, 0, 1, 0, 1);
        DUE.finding(x, "five pairs", () -> x.steps(0), SIZE);
        Due.row(x, 0, 0, 0, 0, 0, 0, 0, 0, 0, 0, 0);
        DUE.finding(x, "five pairs, size ahead of unlike", () -> x.steps(0), SIZE);
        Due.row(x, 0, 0, 1, 2, 2);
        DUE.finding(x, "the same twice", () -> x.steps(0), UNLIKE);
        Due.row(x, 0, 0, 3);
        DUE.finding(x, "nobody of that number", () -> x.steps(0), UNLIKE);
        Due.row(x, 0, -1, 1);
        DUE.finding(x, "a number below 0", () -> x.steps(0), UNLIKE);
    }

    private static void meetings() {
        FirstLanding x = Due.embassy("n6g900040e900050s900070v030050c009000k004060");
        DUE.is("guest: as it is", x.meetings(0, 62, 0), 0);
        DUE.is("guest: 4 + 6 by 5", x.meetings(0, 62, 2), 1);
        DUE.is("guest: 4 + 9 + 9 by 5", x.meetings(0, 62, 4), 2);
        DUE.is("guest: 4 + 36 by 5", x.meetings(0, 62, 8), 4);
        DUE.is("guest: never 9", x.meetings(0, 62, 9), FirstLanding.NONE);
        DUE.is("guest with one: 4", x.meetings(0, 16, 4), 0);
        DUE.is("guest with one: not 5", x.meetings(0, 16, 5), FirstLanding.NONE);
        DUE.is("envoy: 9 to 0 already", x.meetings(1, 63, 9), 0);
        DUE.is("envoy: 6 by one", x.meetings(1, 62, 6), 1);
        DUE.is("envoy: less never", x.meetings(1, 62, 4), FirstLanding.NONE);
        DUE.is("spy: all that are 0", x.meetings(2, 63, 7), 3);
        DUE.is("spy: not above what is", x.meetings(2, 63, 8), FirstLanding.NONE);
        DUE.is("spy: 0", x.meetings(2, 63, 0), 0);
        DUE.is("valet: by the first alone", x.meetings(3, 63, 5), 1);
        DUE.is("valet: 1 is the first", x.meetings(3, 62, 3), 0);
        DUE.is("valet: 1 is the first, no 5", x.meetings(3, 62, 5), FirstLanding.NONE);
        DUE.is("chief: 2 by looks 1", x.meetings(4, 3, 2), 1);
        DUE.is("chief: never 1", x.meetings(4, 3, 1), FirstLanding.NONE);
        DUE.is("chief: 9 by looks 8 or 9", x.meetings(4, 3, 9), 1);
        DUE.is("child: as it is", x.meetings(5, 63, 4), 0);
        DUE.is("child: 2 by one", x.meetings(5, 63, 2), 1);
        DUE.is("child: not 5", x.meetings(5, 63, 5), FirstLanding.NONE);
        DUE.is("with nobody: 0", x.meetings(0, 1, 0), 0);
        DUE.is("with nobody: not 1", x.meetings(0, 0, 1), FirstLanding.NONE);
        DUE.refused(x, "meetings(6, 1, 1)", () -> x.meetings(6, 1, 1), FirstLanding.BAD);
        DUE.refused(x, "meetings(-1, 1, 1)", () -> x.meetings(-1, 1, 1), FirstLanding.BAD);
        DUE.refused(x, "meetings(0, 64, 1)", () -> x.meetings(0, 64, 1), FirstLanding.BAD);
        DUE.refused(x, "meetings(0, -1, 1)", () -> x.meetings(0, -1, 1), FirstLanding.BAD);
        DUE.refused(x, "meetings(0, 1, 10)", () -> x.meetings(0, 1, 10), FirstLanding.BAD);
        DUE.refused(x, "meetings(0, 1, -1)", () -> x.meetings(0, 1, -1), FirstLanding.BAD);
        DUE.is("nothing was done", x.count(2), 0);
    }
}

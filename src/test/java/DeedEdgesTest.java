/** Section 2 and promises 15 to 20, a sentence at a time: the edges of deeds, undone, kept. */
public final class DeedEdgesTest {
    private static final int BAD = FirstLanding.BAD, FULL = FirstLanding.FULL, STATE = FirstLanding.STATE;
    private static final int NOTHING = 1;
    private static final int MIN = Integer.MIN_VALUE, MAX = Integer.MAX_VALUE;
    private static final String ALL_ALIKE = "n6g555555g555555g555555g555555g555555g555555";
    private static final Sentences SAYS = new Sentences();
    private static final Due DUE = SAYS.due;

    public static void main(String[] args) {
        SAYS.that(0, "Nobody is UP (on the landing) at first, there are no TREATIES.", DeedEdgesTest::atFirst);
        SAYS.that(0, "(LOOKS of one to another one, which were 0, are 1 .. 9 from now on)", DeedEdgesTest::meetingOfEachLook);
        SAYS.that(0, "a TREATY of two who are UP and AGREE with who is UP (once for any two)", DeedEdgesTest::treatyOnce);
        SAYS.that(0, "These are DEEDS 0, 1, .. (40 at most).", DeedEdgesTest::fortyDeeds);
        SAYS.that(15, "One goes UP, or down, if one is: how many are UP.", DeedEdgesTest::stepsOfAll);
        SAYS.that(15, "BAD; FULL: 40 DEEDS. (FULL last.)", DeedEdgesTest::stepRefused);
        SAYS.that(16, "how many LOOKS are 0 yet (of all to all others)", DeedEdgesTest::looksLeft);
        SAYS.that(16, "BAD: also the same, LOOKS that are no 1 .. 9", DeedEdgesTest::meetBad);
        SAYS.that(16, "STATE: LOOKS are not 0", DeedEdgesTest::meetAgain);
        SAYS.that(16, "FULL. (FULL last.)", DeedEdgesTest::meetFull);
        SAYS.that(17, "A TREATY of two: how many there are.", DeedEdgesTest::allTreaties);
        SAYS.that(17, "BAD: also the same", DeedEdgesTest::treatBad);
        SAYS.that(17, "STATE: they have one, are not both UP, or do not AGREE", DeedEdgesTest::treatNotNow);
        SAYS.that(17, "FULL. (FULL last.)", DeedEdgesTest::treatFull);
        SAYS.that(18, "DEEDS from number n on are undone: how many.", DeedEdgesTest::undone);
        SAYS.that(18, "BAD.", DeedEdgesTest::undoBad);
        SAYS.that(19, "The EMBASSY (as it is, DEEDS) is kept in a place (0 .. 2): how many DEEDS.", DeedEdgesTest::keptPlaces);
        SAYS.that(19, "BAD; STATE: no PEOPLE.", DeedEdgesTest::keepRefused);
        SAYS.that(20, "The EMBASSY is as it was kept: how many DEEDS.", DeedEdgesTest::goneOn);
        SAYS.that(20, "BAD; NOTHING.", DeedEdgesTest::onRefused);
        SAYS.end("DeedEdgesTest", 15, 20);
    }

    private static FirstLanding allUp() {
        FirstLanding x = Due.embassy(ALL_ALIKE);
        for (int a = 0; a < 6; a++) {
            x.step(a);
        }
        return x;
    }

    private static void stepUntil(FirstLanding x, int a, int deeds) {
        while (x.count(2) < deeds) {
            x.step(a);
        }
    }

    private static void atFirst() {
        FirstLanding x = Due.embassy(ALL_ALIKE);
        DUE.is("who is up", x.count(1), 0);
        DUE.is("treaties", x.count(3), 0);
        DUE.is("deeds", x.count(2), 0);
        for (int a = 0; a < 6; a++) {
            DUE.asked(x, a + " is not up", x.person(a, 1), 1, 0);
            DUE.asked(x, a + " has no treaty", x.person(a, 3), 1, 0);
        }
    }

    private static void meetingOfEachLook() {
        FirstLanding x = Due.embassy("n4g0000g0000g0000g0000");
        int left = 12;
        for (int look = 1; look <= 9; look++) {
            int a = (look - 1) / 3;
            int b = (a + 1 + (look - 1) % 3) % 4;
            left--;
            DUE.is("meet(" + a + ", " + b + ", " + look + ")", x.meet(a, b, look), left);
            DUE.is("looks(" + a + ", " + b + ")", x.looks(a, b), look);
        }
        DUE.is("nobody need be up", x.count(1), 0);
        DUE.is("nine deeds", x.count(2), 9);
        DUE.is("one's own look stays", x.looks(0, 0), 0);
    }

    private static void treatyOnce() {
        FirstLanding x = Due.embassy("n2g05g50");
        x.step(0);
        x.step(1);
        DUE.is("once", x.treat(0, 1), 1);
        DUE.refused(x, "twice", () -> x.treat(0, 1), STATE);
        DUE.refused(x, "the other way round", () -> x.treat(1, 0), STATE);
        x.step(0);
        x.step(0);
        DUE.refused(x, "after one has been down", () -> x.treat(0, 1), STATE);
        x.undo(2);
        DUE.is("once again, as it was undone", x.treat(1, 0), 1);
    }

    private static void fortyDeeds() {
        FirstLanding x = Due.embassy("n3g055g505g500");
        for (int i = 1; i <= 40; i++) {
            x.step(0);
            DUE.is("deeds", x.count(2), i);
        }
        DUE.refused(x, "a forty-first", () -> x.step(0), FULL);
        DUE.is("the last one is number 39", x.undo(39), 1);
        DUE.is("there is room for one", x.step(1), 2);
        DUE.refused(x, "and for no other one", () -> x.step(1), FULL);
    }

    private static void stepsOfAll() {
        FirstLanding x = Due.embassy(ALL_ALIKE);
        for (int a = 0; a < 6; a++) {
            DUE.is(a + " goes up", x.step(a), a + 1);
            DUE.is("who is up", x.count(1), (2 << a) - 1);
        }
        for (int a = 0; a < 6; a++) {
            DUE.is(a + " goes down", x.step(a), 5 - a);
            DUE.is("who is up yet", x.count(1), 63 & ~((2 << a) - 1));
        }
        DUE.is("twelve deeds", x.count(2), 12);
    }

    private static void stepRefused() {
        FirstLanding x = Due.embassy("n2g05g50");
        for (int a : new int[] {MIN, -1, 2, 6, MAX}) {
            DUE.refused(x, "step(" + a + ")", () -> x.step(a), BAD);
        }
        stepUntil(x, 0, 39);
        DUE.is("the fortieth", x.step(1), 2);
        DUE.refused(x, "full", () -> x.step(0), FULL);
        DUE.refused(x, "full, for one who is up, too", () -> x.step(1), FULL);
        DUE.refused(x, "BAD ahead of FULL", () -> x.step(2), BAD);
        FirstLanding none = new FirstLanding();
        DUE.refused(none, "step(0) without people", () -> none.step(0), BAD);
    }

    private static void looksLeft() {
        FirstLanding x = Due.embassy("n2g00g00");
        DUE.is("both, own ones left out", x.count(4), 2);
        DUE.is("one is left", x.meet(0, 1, 1), 1);
        DUE.is("none is left", x.meet(1, 0, 9), 0);
        FirstLanding six = Due.embassy("n6g000000g000000g000000g000000g000000g000000");
        int left = 30;
        for (int a = 0; a < 6; a++) {
            for (int b = 0; b < 6; b++) {
                if (a != b) {
                    left--;
                    DUE.is("meet(" + a + ", " + b + ", 5)", six.meet(a, b, 5), left);
                }
            }
        }
    }

    private static void meetBad() {
        FirstLanding x = Due.embassy("n3g000g000g000");
        for (int look : new int[] {MIN, -1, 0, 10, MAX}) {
            DUE.refused(x, "meet(0, 1, " + look + ")", () -> x.meet(0, 1, look), BAD);
        }
        for (int a : new int[] {MIN, -1, 3, 6, MAX}) {
            DUE.refused(x, "meet(" + a + ", 0, 5)", () -> x.meet(a, 0, 5), BAD);
            DUE.refused(x, "meet(0, " + a + ", 5)", () -> x.meet(0, a, 5), BAD);
        }
        for (int a = 0; a < 3; a++) {
            int who = a;
            DUE.refused(x, "meet oneself: " + a, () -> x.meet(who, who, 5), BAD);
        }
        DUE.refused(x, "nobody, who is the same", () -> x.meet(3, 3, 5), BAD);
        x.meet(0, 1, 5);
        DUE.refused(x, "BAD ahead of STATE", () -> x.meet(0, 1, 10), BAD);
        FirstLanding none = new FirstLanding();
        DUE.refused(none, "meet(0, 1, 5) without people", () -> none.meet(0, 1, 5), BAD);
    }

    private static void meetAgain() {
        FirstLanding x = Due.embassy("n3g010g000g000");
        DUE.refused(x, "seen by the text", () -> x.meet(0, 1, 5), STATE);
        x.meet(1, 0, 9);
        DUE.refused(x, "met", () -> x.meet(1, 0, 9), STATE);
        DUE.refused(x, "met, other looks", () -> x.meet(1, 0, 1), STATE);
        x.undo(0);
        DUE.is("can be met when undone", x.meet(1, 0, 1), 4);
    }

    private static void meetFull() {
        FirstLanding x = Due.embassy("n3g010g000g000");
        stepUntil(x, 0, 39);
        DUE.is("the fortieth", x.meet(2, 0, 5), 4);
        DUE.refused(x, "full", () -> x.meet(2, 1, 5), FULL);
        DUE.refused(x, "STATE ahead of FULL", () -> x.meet(0, 1, 5), STATE);
        DUE.refused(x, "STATE ahead of FULL, met", () -> x.meet(2, 0, 5), STATE);
        DUE.refused(x, "BAD ahead of FULL", () -> x.meet(1, 1, 5), BAD);
        DUE.refused(x, "BAD ahead of FULL, looks", () -> x.meet(2, 1, 0), BAD);
    }

    private static void allTreaties() {
        FirstLanding x = allUp();
        int many = 0;
        for (int a = 0; a < 6; a++) {
            for (int b = 0; b < a; b++) {
                many++;
                DUE.is("treat(" + a + ", " + b + ")", x.treat(a, b), many);
                DUE.is("all that there are", x.count(3), many);
            }
        }
        DUE.is("fifteen at most", many, 15);
        DUE.is("deeds", x.count(2), 21);
    }

    private static void treatBad() {
        FirstLanding x = Due.embassy("n3g055g505g550");
        x.step(0);
        x.step(1);
        for (int a : new int[] {MIN, -1, 3, 6, MAX}) {
            DUE.refused(x, "treat(" + a + ", 0)", () -> x.treat(a, 0), BAD);
            DUE.refused(x, "treat(0, " + a + ")", () -> x.treat(0, a), BAD);
        }
        DUE.refused(x, "oneself, up", () -> x.treat(0, 0), BAD);
        DUE.refused(x, "oneself, not up: BAD ahead of STATE", () -> x.treat(2, 2), BAD);
        FirstLanding none = new FirstLanding();
        DUE.refused(none, "treat(0, 1) without people", () -> none.treat(0, 1), BAD);
    }

    private static int treatyOf(String signs, int... up) {
        FirstLanding x = Due.embassy(signs);
        for (int a : up) {
            x.step(a);
        }
        return x.treat(0, 1);
    }

    private static void treatNotNow() {
        DUE.is("nobody is up", treatyOf("n2v05v50"), STATE);
        DUE.is("the first one is not up", treatyOf("n2v05v50", 1), STATE);
        DUE.is("the other one is not up", treatyOf("n2v05v50", 0), STATE);
        DUE.is("they differ by 0", treatyOf("n2v05v50", 0, 1), 1);
        DUE.is("by 1", treatyOf("n2v05v60", 0, 1), 1);
        DUE.is("by 1, the other way round", treatyOf("n2v05v40", 0, 1), 1);
        DUE.is("by 2", treatyOf("n2v05v70", 0, 1), STATE);
        DUE.is("by 2, the other way round", treatyOf("n2v05v30", 0, 1), STATE);
        DUE.is("1 and 0: one is not there", treatyOf("n2v01v00", 0, 1), STATE);
        DUE.is("0 and 1: one is not there", treatyOf("n2v00v10", 0, 1), STATE);
        DUE.is("0 and 0: neither is there", treatyOf("n2v00v00", 0, 1), STATE);
        DUE.is("9 and 9", treatyOf("n2v09v90", 0, 1), 1);
        DUE.is("who is up with them counts", treatyOf("n3g051g509g000", 0, 1, 2), STATE);
        DUE.is("who is not up doesn't", treatyOf("n3g051g509g000", 0, 1), 1);
        FirstLanding x = Due.embassy("n2v05v50");
        x.step(0);
        x.step(1);
        x.treat(0, 1);
        DUE.refused(x, "they have one", () -> x.treat(0, 1), STATE);
    }

    private static void treatFull() {
        FirstLanding x = Due.embassy("n3g055g505g550");
        x.step(0);
        x.step(1);
        stepUntil(x, 2, 39);
        DUE.is("all are up", x.count(1), 7);
        DUE.is("the fortieth", x.treat(2, 1), 1);
        DUE.refused(x, "full", () -> x.treat(0, 1), FULL);
        DUE.refused(x, "STATE ahead of FULL", () -> x.treat(1, 2), STATE);
        DUE.refused(x, "BAD ahead of FULL", () -> x.treat(1, 1), BAD);
    }

    /** Deed i of a run of forty with deeds of every sort. */
    private static void deed(FirstLanding x, int i) {
        int did = i == 2 ? x.treat(0, 1) : i == 5 ? x.meet(2, 1, 8) : x.step(i % 3);
        DUE.is("deed " + i + " is done", did >= 0 ? 1 : 0, 1);
    }

    private static void undone() {
        FirstLanding x = Due.embassy("n3g055g505g500");
        long[] before = new long[40];
        for (int i = 0; i < 40; i++) {
            before[i] = x.digest();
            deed(x, i);
        }
        DUE.is("forty deeds", x.count(2), 40);
        for (int n = 0; n < 40; n++) {
            FirstLanding y = Due.embassy("n3g055g505g500");
            for (int i = 0; i < 40; i++) {
                deed(y, i);
            }
            DUE.is("undo(" + n + ") of forty", y.undo(n), 40 - n);
            DUE.is("as it was ahead of deed " + n, y.digest(), before[n]);
            DUE.is("so many are left", y.count(2), n);
        }
    }

    private static void undoBad() {
        FirstLanding none = new FirstLanding();
        DUE.refused(none, "undo(0) without people", () -> none.undo(0), BAD);
        FirstLanding x = Due.embassy("n2g05g50");
        DUE.refused(x, "undo(0), there is no deed 0", () -> x.undo(0), BAD);
        x.step(0);
        x.step(1);
        for (int n : new int[] {MIN, -2, -1, 2, 3, 39, 40, MAX}) {
            DUE.refused(x, "undo(" + n + ") of deeds 0, 1", () -> x.undo(n), BAD);
        }
        DUE.is("undo(1)", x.undo(1), 1);
        DUE.is("undo(0)", x.undo(0), 1);
        stepUntil(x, 0, 40);
        DUE.refused(x, "undo(40) of forty", () -> x.undo(40), BAD);
    }

    private static void keptPlaces() {
        FirstLanding x = Due.embassy("n3g055g505g500");
        DUE.is("keep(0) without deeds", x.keep(0), 0);
        x.step(0);
        DUE.is("keep(1)", x.keep(1), 1);
        stepUntil(x, 2, 40);
        DUE.is("keep(2), forty", x.keep(2), 40);
        DUE.is("three are kept", x.count(9), 3);
        DUE.is("keeping is no deed", x.count(2), 40);
        x.undo(3);
        DUE.is("keep(2) again, what was there goes", x.keep(2), 3);
        DUE.is("three yet", x.count(9), 3);
        DUE.is("on(2)", x.on(2), 3);
        DUE.is("on(1)", x.on(1), 1);
        DUE.is("on(0)", x.on(0), 0);
    }

    private static void keepRefused() {
        FirstLanding none = new FirstLanding();
        for (int k = 0; k <= 2; k++) {
            int place = k;
            DUE.refused(none, "keep(" + k + ") without people", () -> none.keep(place), STATE);
        }
        FirstLanding x = Due.embassy("n2g05g50");
        x.keep(0);
        for (int k : new int[] {MIN, -1, 3, 4, MAX}) {
            DUE.refused(x, "keep(" + k + ")", () -> x.keep(k), BAD);
            DUE.refused(none, "keep(" + k + ") without people: BAD ahead of STATE", () -> none.keep(k), BAD);
        }
    }

    private static void goneOn() {
        FirstLanding x = Due.embassy("n3g055g505g500");
        x.step(0);
        x.step(1);
        x.treat(0, 1);
        x.meet(2, 1, 8);
        x.keep(1);
        long was = x.digest();
        x.step(0);
        x.undo(0);
        x.meet(2, 1, 3);
        DUE.is("on(1)", x.on(1), 4);
        DUE.is("as it was", x.digest(), was);
        DUE.is("looks as they were", x.looks(2, 1), 8);
        DUE.is("its deeds are known", x.undo(3), 1);
        DUE.is("looks as they were ahead of that", x.looks(2, 1), 0);
        x.step(2);
        DUE.is("what is kept stays as it was", x.on(1), 4);
        DUE.is("as it was again", x.digest(), was);
        stepUntil(x, 0, 40);
        DUE.is("on(1) of a full one", x.on(1), 4);
        DUE.is("there is room again", x.step(2), 3);
        x.keep(2);
        DUE.is("on(2)", x.on(2), 5);
        DUE.is("on(2), nothing else", x.on(2), 5);
    }

    private static void onRefused() {
        FirstLanding x = Due.embassy("n2g05g50");
        x.step(1);
        for (int k : new int[] {MIN, -1, 3, 4, MAX}) {
            DUE.refused(x, "on(" + k + ")", () -> x.on(k), BAD);
        }
        x.keep(1);
        DUE.finding(x, "on(0), missing", () -> x.on(0), NOTHING);
        DUE.finding(x, "on(2), missing", () -> x.on(2), NOTHING);
        DUE.is("on(1)", x.on(1), 1);
        FirstLanding none = new FirstLanding();
        DUE.finding(none, "on(0) without people", () -> none.on(0), NOTHING);
        DUE.refused(none, "on(3) without people", () -> none.on(3), BAD);
    }
}

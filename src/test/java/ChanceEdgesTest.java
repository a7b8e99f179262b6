/** Section 3 and promises 34 to 37, a sentence at a time: the edges of missions, chances, lots. */
public final class ChanceEdgesTest {
    private static final int BAD = FirstLanding.BAD, FULL = FirstLanding.FULL, STATE = FirstLanding.STATE;
    private static final int MIN = Integer.MIN_VALUE, MAX = Integer.MAX_VALUE;
    private static final String[] SOME = {"n6g045230e302114s550607v040025c130503k206140", "n5e01234s43210v21012c00990k99111",
        "n6v123456v654321v112233v332211v919191v191919", "n4g1234e4321s1212k2121", "n6k100000k220000k333000k444400k555550k666666"};
    private static final Sentences SAYS = new Sentences();
    private static final Due DUE = SAYS.due;

    public static void main(String[] args) {
        SAYS.that(34, "By turns two missions send one UP who is not, n (0 .. 2) times each, the first one begins", ChanceEdgesTest::turns);
        SAYS.that(34, "(who can't, as all are, sends nobody)", ChanceEdgesTest::nobodyToSend);
        SAYS.that(34, "how many pairs of those who are UP then AGREE, the first wanting many, the other few", ChanceEdgesTest::manyAndFew);
        SAYS.that(34, "BAD; STATE: no PEOPLE.", ChanceEdgesTest::missionsRefused);
        SAYS.that(35, "if each other who is UP has gone down by p (0 .. 12) of 12, each by itself: 1.", ChanceEdgesTest::midByP);
        SAYS.that(35, "The mean of what one (UP, who stays) SEEMS", ChanceEdgesTest::midOfSeeming);
        SAYS.that(35, "BAD; STATE: one is not UP.", ChanceEdgesTest::midRefused);
        SAYS.that(36, "Chances that one is there so: 1.", ChanceEdgesTest::oddsByP);
        SAYS.that(36, "BAD; STATE: one is not UP.", ChanceEdgesTest::oddsRefused);
        SAYS.that(0, "in lowest terms, the lower number above 0 (0 by 1)", ChanceEdgesTest::lowestTerms);
        SAYS.that(0, "a number comes from the one ahead by 48271 times it modulo 2147483647, the first from a seed (1 .. 2147483646)",
            ChanceEdgesTest::numbers);
        SAYS.that(37, "n (1 .. 20) DEEDS truly by LOTS of a seed", ChanceEdgesTest::lotsAreDeeds);
        SAYS.that(37, "if it by 8, cut, modulo 4 is 0, a TREATY of it modulo how many there are and of it by 64, cut, modulo"
            + " how many there are, if they can have one, else the first of these two goes UP, or down", ChanceEdgesTest::lotsOneByOne);
        SAYS.that(37, "how many TREATIES there are", ChanceEdgesTest::lotsTreaties);
        SAYS.that(37, "BAD; STATE: no PEOPLE; FULL: with n more there would be more than 40 DEEDS. (FULL last.)",
            ChanceEdgesTest::lotsRefused);
        SAYS.end("ChanceEdgesTest", 34, 37);
    }

    /** What the missions come to, if each turn is tried out with agree(). */
    private static int byTurns(FirstLanding x, int people, int up, int turns) {
        if (turns == 0) {
            return x.agree(up);
        }
        int best = -1;
        for (int a = 0; a < people; a++) {
            if ((up >> a & 1) == 0) {
                int then = byTurns(x, people, up | 1 << a, turns - 1);
                boolean first = turns == 4 || turns == 2;
                best = best < 0 ? then : first ? Math.max(best, then) : Math.min(best, then);
            }
        }
        return best < 0 ? byTurns(x, people, up, turns - 1) : best;
    }

    private static void turns() {
        for (String signs : SOME) {
            FirstLanding x = Due.embassy(signs);
            int people = x.count(0);
            for (int up = 0; up < 1 << people; up++) {
                x.embassy(0);
                for (int a = 0; a < people; a++) {
                    if ((up >> a & 1) == 1) {
                        x.step(a);
                    }
                }
                for (int n = 0; n <= 2; n++) {
                    DUE.is("missions(" + n + ") from " + up + " of " + signs, x.missions(n), byTurns(x, people, up, 2 * n));
                }
                DUE.is("nobody was sent truly", x.count(1), up);
            }
        }
    }

    private static void nobodyToSend() {
        FirstLanding x = Due.embassy("n2g05g50");
        DUE.is("none of two are sent", x.missions(0), 0);
        DUE.is("both are sent", x.missions(1), 1);
        DUE.is("both are sent, then nobody, twice", x.missions(2), 1);
        x.step(0);
        DUE.is("one is sent, the other mission sends nobody", x.missions(1), 1);
        x.step(1);
        for (int n = 0; n <= 2; n++) {
            DUE.is("all are up: nobody, missions(" + n + ")", x.missions(n), 1);
        }
        FirstLanding three = Due.embassy("n3g055g505g550");
        DUE.is("three of three, then nobody", three.missions(2), 3);
        FirstLanding six = Due.embassy("n6g555555g555555g555555g555555g555555g555555");
        DUE.is("four of six", six.missions(2), 6);
        six.step(5);
        DUE.is("five of six", six.missions(2), 10);
        six.step(4);
        DUE.is("six of six", six.missions(2), 15);
        six.step(3);
        DUE.is("six of six, then nobody", six.missions(2), 15);
    }

    private static void manyAndFew() {
        FirstLanding star = Due.embassy("n3v011v101v990");
        // 0, 1 agree (1, 1), 0, 2 don't (1, 9), 1, 2 don't (1, 9).
        DUE.is("the other one sends 2", star.missions(1), 0);
        FirstLanding good = Due.embassy("n3v059v505v950");
        // 0, 1: 5, 5; 0, 2: 9, 9; 1, 2: 5, 5. Whoever is sent, any two agree.
        DUE.is("any two agree", good.missions(1), 1);
        FirstLanding middle = Due.embassy("n3v051v505v950");
        // 0, 1: 5, 5; 1, 2: 5, 5; 0, 2: 1, 9. The first one sends 1.
        DUE.is("the first one sends 1", middle.missions(1), 1);
        FirstLanding pairs = Due.embassy("n4v0511v5011v9905v9950");
        DUE.is("the other one parts all", pairs.missions(1), 0);
    }

    private static void missionsRefused() {
        FirstLanding none = new FirstLanding();
        FirstLanding x = Due.embassy("n2g05g50");
        for (int n : new int[] {MIN, -1, 3, 4, MAX}) {
            DUE.refused(x, "missions(" + n + ")", () -> x.missions(n), BAD);
            DUE.refused(none, "missions(" + n + ") without people: BAD ahead of STATE", () -> none.missions(n), BAD);
        }
        for (int n = 0; n <= 2; n++) {
            int times = n;
            DUE.refused(none, "missions(" + n + ") without people", () -> none.missions(times), STATE);
        }
    }

    private static FirstLanding sixUp(String looks) {
        FirstLanding x = Due.embassy("n6g" + looks + "e000000s000000v000000c000000k000000");
        for (int a = 0; a < 6; a++) {
            x.step(a);
        }
        return x;
    }

    private static void midByP() {
        FirstLanding x = sixUp("999999");
        DUE.ratio(x, "0 of 12: nobody has gone", x.mid(0, 0), 9, 1);
        DUE.ratio(x, "12 of 12: all have gone", x.mid(0, 12), 0, 1);
        DUE.ratio(x, "6 of 12: 9 times 31 by 32", x.mid(0, 6), 279, 32);
        DUE.ratio(x, "1 of 12: 9 times 248831 by 248832", x.mid(0, 1), 248831, 27648);
        DUE.ratio(x, "11 of 12: 9 times 87781 by 248832", x.mid(0, 11), 87781, 27648);
        DUE.is("nobody has gone truly", x.count(1), 63);
        x.step(0);
        x.step(0);
        x.step(1);
        DUE.ratio(x, "who is not up is not there to go: 9 times 15 by 16", x.mid(0, 6), 135, 16);
    }

    private static void midOfSeeming() {
        FirstLanding x = Due.embassy("n3g934v509k000");
        x.step(0);
        DUE.ratio(x, "alone one seems 0", x.mid(0, 0), 0, 1);
        x.step(1);
        DUE.ratio(x, "one other, surely", x.mid(0, 0), 3, 1);
        DUE.ratio(x, "one other by 1 of 12 gone", x.mid(0, 1), 11, 4);
        x.step(2);
        // Both: 3 (7 by 2, cut); 1 alone: 3; 2 alone: 4. By halves: a quarter of 3 + 3 + 4 + 0.
        DUE.ratio(x, "each mean is cut first", x.mid(0, 6), 5, 2);
        // A valet: 5 with 0, else 9 with 2. By thirds gone: 5 by 2/3, 9 by 1/3 of 2/3.
        DUE.ratio(x, "a valet", x.mid(1, 4), 16, 3);
        DUE.ratio(x, "never there", x.mid(2, 4), 0, 1);
    }

    private static void midRefused() {
        FirstLanding x = Due.embassy("n3g055g505g550");
        x.step(0);
        x.step(1);
        x.mid(0, 6);
        for (int p : new int[] {MIN, -1, 13, 14, MAX}) {
            DUE.refused(x, "mid(0, " + p + ")", () -> x.mid(0, p), BAD);
            DUE.refused(x, "mid(2, " + p + "): BAD ahead of STATE", () -> x.mid(2, p), BAD);
        }
        for (int a : new int[] {MIN, -1, 3, 6, MAX}) {
            DUE.refused(x, "mid(" + a + ", 6)", () -> x.mid(a, 6), BAD);
        }
        DUE.refused(x, "mid of one who is not up", () -> x.mid(2, 6), STATE);
        x.step(1);
        DUE.refused(x, "mid of one who has gone down", () -> x.mid(1, 6), STATE);
        FirstLanding none = new FirstLanding();
        DUE.refused(none, "mid(0, 0) without people", () -> none.mid(0, 0), BAD);
    }

    private static void oddsByP() {
        FirstLanding x = sixUp("999999");
        DUE.ratio(x, "0 of 12: surely", x.odds(0, 0), 1, 1);
        DUE.ratio(x, "12 of 12: never", x.odds(0, 12), 0, 1);
        DUE.ratio(x, "6 of 12", x.odds(0, 6), 31, 32);
        DUE.ratio(x, "1 of 12", x.odds(0, 1), 248831, 248832);
        DUE.ratio(x, "11 of 12", x.odds(0, 11), 87781, 248832);
        DUE.ratio(x, "who seems 0 whoever stays", x.odds(5, 6), 0, 1);
        FirstLanding y = Due.embassy("n3s005g500g010");
        y.step(0);
        DUE.ratio(y, "alone: not there", y.odds(0, 0), 0, 1);
        y.step(1);
        y.step(2);
        // The spy is there, if 1 has gone and 2 has not.
        DUE.ratio(y, "by 3 of 12: 1 by 4 of 3 by 4", y.odds(0, 3), 3, 16);
        // The guest 2: 0 with both (1 by 2, cut), 1 with 1 alone.
        DUE.ratio(y, "a mean that is cut to 0 is not there", y.odds(2, 3), 3, 16);
        DUE.ratio(y, "surely none goes: not there", y.odds(2, 0), 0, 1);
    }

    private static void oddsRefused() {
        FirstLanding x = Due.embassy("n3g055g505g550");
        x.step(0);
        x.step(1);
        x.odds(0, 4);
        for (int p : new int[] {MIN, -1, 13, 14, MAX}) {
            DUE.refused(x, "odds(0, " + p + ")", () -> x.odds(0, p), BAD);
            DUE.refused(x, "odds(2, " + p + "): BAD ahead of STATE", () -> x.odds(2, p), BAD);
        }
        for (int a : new int[] {MIN, -1, 3, 6, MAX}) {
            DUE.refused(x, "odds(" + a + ", 6)", () -> x.odds(a, 6), BAD);
        }
        DUE.refused(x, "odds of one who is not up", () -> x.odds(2, 6), STATE);
        FirstLanding none = new FirstLanding();
        DUE.refused(none, "odds(0, 0) without people", () -> none.odds(0, 0), BAD);
    }

    private static long shared(long a, long b) {
        return b == 0 ? a : shared(b, a % b);
    }

    private static void lowestTerms() {
        FirstLanding x = Due.embassy(SOME[0]);
        for (int a = 0; a < 6; a++) {
            x.step(a);
        }
        for (int a = 0; a < 6; a++) {
            for (int p = 0; p <= 12; p++) {
                x.mid(a, p);
                DUE.is("mid(" + a + ", " + p + ") in lowest terms", shared(x.upper(), x.lower()), 1);
                DUE.is("above 0", x.lower() > 0 && x.upper() >= 0 ? 1 : 0, 1);
                DUE.is("0 by 1", x.upper() != 0 || x.lower() == 1 ? 1 : 0, 1);
                x.odds(a, p);
                DUE.is("odds(" + a + ", " + p + ") in lowest terms", shared(x.upper(), x.lower()), 1);
                DUE.is("1 at most", x.upper() >= 0 && x.upper() <= x.lower() ? 1 : 0, 1);
            }
        }
    }

    /** The deeds of lots one by one, with numbers that are reckoned without a bound. */
    private static void byHand(FirstLanding x, int n, int seed) {
        java.math.BigInteger number = java.math.BigInteger.valueOf(seed);
        int people = x.count(0);
        for (int i = 0; i < n; i++) {
            number = number.multiply(java.math.BigInteger.valueOf(48271)).mod(java.math.BigInteger.valueOf(2147483647));
            int it = number.intValueExact();
            int a = it % people;
            int b = it / 64 % people;
            if (it / 8 % 4 != 0 || x.treat(a, b) < 0) {
                x.step(a);
            }
        }
    }

    private static void numbers() {
        // With two people: 0 and 1 agree; a number's being odd tells who goes up.
        FirstLanding x = Due.embassy("n2g00g00");
        x.lots(1, 1);
        DUE.is("seed 1: 48271 is odd: 1 goes up", x.count(1), 2);
        x.undo(0);
        x.lots(1, 2147483646);
        DUE.is("the greatest seed: 2147435376 is even: 0 goes up", x.count(1), 1);
        x.undo(0);
        x.lots(2, 1);
        DUE.is("then 182605794: 0 goes up", x.count(1), 3);
        for (int seed : new int[] {1, 2, 3, 7, 44488, 44489, 65536, 1 << 30, 2147483645, 2147483646}) {
            for (String signs : SOME) {
                FirstLanding y = Due.embassy(signs);
                FirstLanding z = Due.embassy(signs);
                y.lots(20, seed);
                y.lots(20, seed);
                byHand(z, 20, seed);
                byHand(z, 20, seed);
                DUE.is("forty deeds of seed " + seed + " on " + signs, y.digest(), z.digest());
            }
        }
    }

    private static void lotsAreDeeds() {
        FirstLanding x = Due.embassy("n3g055g505g550");
        long before = x.digest();
        x.lots(1, 5);
        DUE.is("one", x.count(2), 1);
        x.lots(20, 5);
        DUE.is("twenty more", x.count(2), 21);
        x.lots(19, 5);
        DUE.is("forty", x.count(2), 40);
        DUE.is("they are undone, too", x.undo(0), 40);
        DUE.is("as at first", x.digest(), before);
        x.lots(20, 77);
        long twenty = x.digest();
        x.undo(0);
        x.lots(19, 77);
        DUE.is("nineteen of the same are the first of twenty", x.count(2), 19);
        x.undo(0);
        x.lots(20, 77);
        DUE.is("the same seed, the same deeds", x.digest(), twenty);
    }

    private static void lotsOneByOne() {
        int treaties = 0;
        for (int seed = 1; seed <= 400; seed++) {
            String signs = seed % 2 == 0 ? "n6g555555g555555g555555g555555g555555g555555" : SOME[seed % SOME.length];
            FirstLanding x = Due.embassy(signs);
            FirstLanding y = Due.embassy(signs);
            for (int a = 0; a < x.count(0); a++) {
                x.step(a);
                y.step(a);
            }
            x.lots(20, seed * 5003);
            byHand(y, 20, seed * 5003);
            treaties += x.count(3);
            DUE.is("seed " + seed * 5003, x.digest(), y.digest());
        }
        DUE.is("there were treaties among them", treaties > 200 ? 1 : 0, 1);
    }

    private static void lotsTreaties() {
        FirstLanding x = Due.embassy("n6g555555g555555g555555g555555g555555g555555");
        for (int a = 0; a < 6; a++) {
            x.step(a);
        }
        x.treat(0, 1);
        int many = x.lots(20, 2);
        DUE.is("all that there are, earlier ones, too", many, x.count(3));
        DUE.is("more than the earlier one", many > 1 ? 1 : 0, 1);
        FirstLanding none = Due.embassy("n2g00g00");
        DUE.is("none, if nobody is there", none.lots(20, 5), 0);
    }

    private static void lotsRefused() {
        FirstLanding none = new FirstLanding();
        DUE.refused(none, "without people", () -> none.lots(1, 1), STATE);
        FirstLanding x = Due.embassy("n2g05g50");
        for (int n : new int[] {MIN, -1, 0, 21, 40, MAX}) {
            DUE.refused(x, "lots(" + n + ", 1)", () -> x.lots(n, 1), BAD);
            DUE.refused(none, "lots(" + n + ", 1): BAD ahead of STATE", () -> none.lots(n, 1), BAD);
        }
        for (int seed : new int[] {MIN, -1, 0, MAX}) {
            DUE.refused(x, "lots(1, " + seed + ")", () -> x.lots(1, seed), BAD);
            DUE.refused(none, "lots(1, " + seed + "): BAD ahead of STATE", () -> none.lots(1, seed), BAD);
        }
        x.lots(20, 3);
        x.step(0);
        DUE.refused(x, "21 and 20 are more than 40", () -> x.lots(20, 3), FULL);
        DUE.refused(x, "BAD ahead of FULL", () -> x.lots(21, 3), BAD);
        DUE.refused(x, "BAD ahead of FULL, the seed", () -> x.lots(20, 0), BAD);
        DUE.is("21 and 19 are 40", x.lots(19, 3) >= 0 ? 1 : 0, 1);
        DUE.is("forty", x.count(2), 40);
        DUE.refused(x, "one more", () -> x.lots(1, 3), FULL);
        x.undo(20);
        DUE.is("20 and 20 are 40", x.lots(20, 3) >= 0 ? 1 : 0, 1);
    }
}

/** What one seems, by section 1, and promises 21 to 26, a sentence at a time. */
public final class AsideEdgesTest {
    private static final int BAD = FirstLanding.BAD, STATE = FirstLanding.STATE, NONE = FirstLanding.NONE;
    private static final int MIN = Integer.MIN_VALUE, MAX = Integer.MAX_VALUE;
    private static final String ALL_ALIKE = "n6g555555g555555g555555g555555g555555g555555";
    private static final Sentences SAYS = new Sentences();
    private static final Due DUE = SAYS.due;

    public static void main(String[] args) {
        kinds();
        SAYS.that(0, "---- 3 who is what there (aside).", AsideEdgesTest::aside);
        SAYS.that(21, "What one SEEMS with a set.", AsideEdgesTest::seemsWithEachSet);
        SAYS.that(21, "BAD.", AsideEdgesTest::seemsRefused);
        SAYS.that(22, "Who of a set is there (bits, each with the others of it).", AsideEdgesTest::thereOfSets);
        SAYS.that(22, "BAD.", AsideEdgesTest::thereRefused);
        SAYS.that(23, "How many pairs of a set AGREE", AsideEdgesTest::agreeAll);
        SAYS.that(23, "the first by asked() (6 times the lesser, and the other; NONE)", AsideEdgesTest::agreeFirst);
        SAYS.that(23, "BAD.", AsideEdgesTest::agreeRefused);
        SAYS.that(24, "The set of most PEOPLE in which all is WELL: how many", AsideEdgesTest::wellMost);
        SAYS.that(24, "which by asked() (bits; the least number)", AsideEdgesTest::wellLeast);
        SAYS.that(24, "STATE: no PEOPLE.", AsideEdgesTest::wellRefused);
        SAYS.that(25, "(one who is not in it) so that most pairs AGREE then (the first)", AsideEdgesTest::addFirst);
        SAYS.that(25, "how many by asked()", AsideEdgesTest::addMany);
        SAYS.that(25, "NONE: all are in it.", AsideEdgesTest::addNone);
        SAYS.that(25, "BAD.", AsideEdgesTest::addRefused);
        SAYS.that(26, "The two of a set (both there) that differ most", AsideEdgesTest::worstMost);
        SAYS.that(26, "6 times the lesser, and the other (the first); by how much by asked().", AsideEdgesTest::worstFirst);
        SAYS.that(26, "NONE: not two are there.", AsideEdgesTest::worstNone);
        SAYS.that(26, "BAD.", AsideEdgesTest::worstRefused);
        SAYS.end("AsideEdgesTest", 21, 26);
    }

    private static void kinds() {
        SAYS.that(0, "What one SEEMS with a set of PEOPLE (one's own number left out): 0 with nobody", AsideEdgesTest::withNobody);
        SAYS.that(0, "a GUEST the mean of all (cut)", AsideEdgesTest::guest);
        SAYS.that(0, "an ENVOY the greatest", AsideEdgesTest::envoy);
        SAYS.that(0, "a SPY the least", AsideEdgesTest::spy);
        SAYS.that(0, "a VALET those to the one of the least number", AsideEdgesTest::valet);
        SAYS.that(0, "a CHIEF 1 more than an ENVOY (9 at most; 0, if that is 0)", AsideEdgesTest::chief);
        SAYS.that(0, "a CHILD the least of those that are above 0 (0, if none is)", AsideEdgesTest::child);
        SAYS.that(0, "Who SEEMS 0 is not there.", AsideEdgesTest::notThere);
        SAYS.that(0, "Two of a set AGREE, if both are there, and what they SEEM (each with the set) differs by 1 at most.",
            AsideEdgesTest::agreeBy);
        SAYS.that(0, "All is WELL in a set, if any two of it AGREE (in a set of one, or none, too).", AsideEdgesTest::wellAlone);
    }

    /** What the first of six of a kind seems with a set, by its looks to the others (to itself they are 9). */
    private static int seems(char kind, String looks, int set) {
        String others = "g000000g000000g000000g000000g000000";
        return Due.embassy("n6" + kind + "9" + looks + others).seems(0, set);
    }

    private static void withNobody() {
        for (char kind : "gesvck".toCharArray()) {
            DUE.is(kind + " with the empty set", seems(kind, "55555", 0), 0);
            DUE.is(kind + " with oneself alone", seems(kind, "55555", 1), 0);
            DUE.is(kind + " with one", seems(kind, "50000", 2), kind == 'c' ? 6 : 5);
            DUE.is(kind + " with one and oneself", seems(kind, "50000", 3), kind == 'c' ? 6 : 5);
        }
    }

    private static void guest() {
        DUE.is("of one", seems('g', "70000", 2), 7);
        DUE.is("3.5", seems('g', "34000", 6), 3);
        DUE.is("four fifths", seems('g', "10030", 62), 0);
        DUE.is("five fifths", seems('g', "10040", 62), 1);
        DUE.is("nine by two", seems('g', "90000", 6), 4);
        DUE.is("all of the greatest", seems('g', "99999", 63), 9);
        DUE.is("all but one", seems('g', "99998", 63), 8);
        DUE.is("all 0", seems('g', "00000", 63), 0);
    }

    private static void envoy() {
        DUE.is("at the end", seems('e', "00009", 63), 9);
        DUE.is("at the beginning", seems('e', "90000", 63), 9);
        DUE.is("all 0", seems('e', "00000", 62), 0);
        DUE.is("not of one who is not of the set", seems('e', "12345", 15), 3);
    }

    private static void spy() {
        DUE.is("0 is the least", seems('s', "99990", 63), 0);
        DUE.is("at the beginning", seems('s', "19999", 63), 1);
        DUE.is("at the end", seems('s', "99991", 63), 1);
        DUE.is("all of the greatest", seems('s', "99999", 62), 9);
        DUE.is("not of one who is not of the set", seems('s', "05678", 60), 5);
    }

    private static void valet() {
        DUE.is("1 is the first", seems('v', "37777", 62), 3);
        DUE.is("oneself left out", seems('v', "37777", 63), 3);
        DUE.is("those of the first are 0", seems('v', "07777", 63), 0);
        DUE.is("the last alone", seems('v', "00008", 33), 8);
        DUE.is("4, not 5", seems('v', "00068", 48), 6);
        FirstLanding x = Due.embassy("n3v123v456v789");
        DUE.is("0 is the first for 1", x.seems(1, 7), 4);
        DUE.is("0 is the first for 2", x.seems(2, 7), 7);
        DUE.is("1 is the first for 2 without 0", x.seems(2, 6), 8);
    }

    private static void chief() {
        DUE.is("0, if the greatest is 0", seems('c', "00000", 63), 0);
        DUE.is("2, if it is 1", seems('c', "01000", 63), 2);
        DUE.is("9, if it is 8", seems('c', "08000", 63), 9);
        DUE.is("9, if it is 9", seems('c', "09000", 63), 9);
    }

    private static void child() {
        DUE.is("0, if none is above", seems('k', "00000", 63), 0);
        DUE.is("the only one above", seems('k', "00007", 63), 7);
        DUE.is("the least above, behind", seems('k', "90807", 63), 7);
        DUE.is("the least above, ahead", seems('k', "10908", 63), 1);
        DUE.is("the least above, between", seems('k', "90201", 31), 2);
        DUE.is("all of the greatest", seems('k', "99999", 63), 9);
    }

    private static void notThere() {
        FirstLanding x = Due.embassy("n3g010g000s100");
        DUE.is("a mean that is cut to 0", x.there(7), 0);
        DUE.is("with one alone", x.there(3), 1);
        DUE.is("1 is there", x.seems(0, 2), 1);
        DUE.is("they are no pair", x.agree(3), 0);
        DUE.is("nobody to differ from", x.worst(3), NONE);
    }

    private static int pair(String one, String other) {
        return Due.embassy("n2v0" + one + "v" + other + "0").agree(3);
    }

    private static void agreeBy() {
        for (int one = 0; one <= 9; one++) {
            for (int other = 0; other <= 9; other++) {
                boolean near = one - other <= 1 && other - one <= 1;
                int due = near && one > 0 && other > 0 ? 1 : 0;
                DUE.is(one + " and " + other, pair("" + one, "" + other), due);
            }
        }
        FirstLanding x = Due.embassy("n3g059g501g000");
        DUE.is("0, 1 agree with each other", x.agree(3), 1);
        DUE.is("not with the whole set: 7 and 3", x.agree(7), 0);
    }

    private static void wellAlone() {
        FirstLanding x = Due.embassy("n2g00g00");
        DUE.asked(x, "one alone, though not there", x.well(), 1, 1);
        FirstLanding y = Due.embassy("n3g099g101g110");
        DUE.asked(y, "two of three", y.well(), 2, 6);
        FirstLanding z = Due.embassy("n3v055v606v740");
        DUE.asked(z, "5, 6, 7: the ends don't agree", z.well(), 2, 3);
    }

    private static void aside() {
        FirstLanding x = Due.embassy("n4g0550e5050s5500v0000");
        x.step(0);
        x.step(1);
        x.treat(0, 1);
        x.keep(1);
        long before = x.digest();
        for (int set = 0; set < 16; set++) {
            int sum = x.there(set) + x.agree(set) + x.add(set) + x.worst(set) + x.well();
            for (int a = 0; a < 4; a++) {
                sum += x.seems(a, set);
            }
            DUE.is("nothing changes by questions that come to " + sum, x.digest(), before);
        }
        DUE.is("nothing was found", x.finding(), 0);
        DUE.is("all can be undone yet", x.undo(0), 3);
    }

    private static void seemsWithEachSet() {
        FirstLanding x = Due.embassy("n3e123s456v789");
        int[][] want = {{0, 0, 2, 2, 3, 3, 3, 3}, {0, 4, 0, 4, 6, 4, 6, 4}, {0, 7, 8, 7, 0, 7, 8, 7}};
        for (int a = 0; a < 3; a++) {
            for (int set = 0; set < 8; set++) {
                DUE.is("seems(" + a + ", " + set + ")", x.seems(a, set), want[a][set]);
            }
        }
        x.step(0);
        DUE.is("who is up is no matter", x.seems(1, 4), 6);
    }

    private static void seemsRefused() {
        for (int n = 2; n <= 6; n++) {
            FirstLanding x = embassyOf(n);
            int people = n;
            DUE.is("the greatest set of " + n, x.seems(0, (1 << n) - 1), 5);
            for (int set : new int[] {MIN, -1, 1 << people, (1 << people) + 1, 1 << 30, MAX}) {
                DUE.refused(x, "seems(0, " + set + ")", () -> x.seems(0, set), BAD);
            }
            for (int a : new int[] {MIN, -1, people, 6, MAX}) {
                DUE.refused(x, "seems(" + a + ", 1)", () -> x.seems(a, 1), BAD);
            }
        }
        FirstLanding none = new FirstLanding();
        DUE.refused(none, "seems(0, 0) without people", () -> none.seems(0, 0), BAD);
    }

    private static FirstLanding embassyOf(int n) {
        StringBuilder signs = new StringBuilder("n").append(n);
        for (int a = 0; a < n; a++) {
            signs.append('g').append("555555", 0, n);
        }
        return Due.embassy(signs.toString());
    }

    private static void thereOfSets() {
        FirstLanding x = Due.embassy(ALL_ALIKE);
        DUE.is("nobody", x.there(0), 0);
        for (int a = 0; a < 6; a++) {
            DUE.is("one alone", x.there(1 << a), 0);
        }
        DUE.is("all", x.there(63), 63);
        DUE.is("the first and the last", x.there(33), 33);
        FirstLanding y = Due.embassy("n3s010g005g090");
        DUE.is("with the others of it, not with who is not", y.there(3), 1);
        DUE.is("the spy has gone by a look of 0", y.there(7), 6);
    }

    private static void noSets(String name, java.util.function.IntBinaryOperator call) {
        for (int n : new int[] {0, 2, 3, 4, 5, 6}) {
            for (int set : new int[] {MIN, -1, 1 << n, (1 << n) + 1, 64, 1 << 30, MAX}) {
                DUE.is(name + "(" + set + ") of " + n, call.applyAsInt(n, set), BAD);
            }
        }
    }

    private static int refusedOf(int n, java.util.function.ToIntFunction<FirstLanding> call) {
        FirstLanding x = n == 0 ? new FirstLanding() : embassyOf(n);
        Due.row(x, 0, 3);
        x.lay(0, 0, 8);
        long before = Due.told(x);
        int answer = call.applyAsInt(x);
        DUE.is("nothing changes", Due.told(x), before);
        return answer;
    }

    private static void thereRefused() {
        noSets("there", (n, set) -> refusedOf(n, x -> x.there(set)));
        DUE.is("without people the empty set is a set", new FirstLanding().there(0), 0);
    }

    private static void agreeAll() {
        FirstLanding x = Due.embassy(ALL_ALIKE);
        DUE.asked(x, "all fifteen", x.agree(63), 15, 1);
        DUE.asked(x, "ten of five", x.agree(62), 10, 8);
        DUE.asked(x, "none of one", x.agree(32), 0, NONE);
        DUE.asked(x, "none of none", x.agree(0), 0, NONE);
    }

    private static void agreeFirst() {
        FirstLanding x = Due.embassy(ALL_ALIKE);
        for (int a = 0; a < 6; a++) {
            for (int b = a + 1; b < 6; b++) {
                DUE.asked(x, "the pair " + a + ", " + b, x.agree(1 << a | 1 << b), 1, 6 * a + b);
            }
        }
        FirstLanding y = Due.embassy("n4v0911v9011v1101v1110");
        // 9, 9, 1, 1: 0 with 1 and 2 with 3.
        DUE.asked(y, "the first of two", y.agree(15), 2, 1);
        FirstLanding z = Due.embassy("n4v0111v9011v1101v9110");
        // 1, 9, 1, 9: 0 with 2 and 1 with 3.
        DUE.asked(z, "the lesser of the first", z.agree(15), 2, 2);
        FirstLanding w = Due.embassy("n4v0111v9011v9101v9110");
        DUE.asked(w, "1, 9, 9, 9: not the first one", w.agree(15), 3, 8);
    }

    private static void agreeRefused() {
        noSets("agree", (n, set) -> refusedOf(n, x -> x.agree(set)));
        FirstLanding none = new FirstLanding();
        DUE.asked(none, "without people the empty set is a set", none.agree(0), 0, NONE);
    }

    private static void wellMost() {
        FirstLanding x = Due.embassy(ALL_ALIKE);
        DUE.asked(x, "all", x.well(), 6, 63);
        FirstLanding y = Due.embassy("n6g055555g505555g550555g555055g555505g000000");
        DUE.asked(y, "all but the last", y.well(), 5, 31);
        FirstLanding z = Due.embassy("n6g000000g000000g000000g000000g000000g000000");
        DUE.asked(z, "nobody there: one", z.well(), 1, 1);
        x.step(0);
        DUE.asked(x, "who is up is no matter", x.well(), 6, 63);
    }

    private static void wellLeast() {
        FirstLanding x = Due.embassy("n4v0511v5011v9905v9950");
        DUE.asked(x, "0, 1 and 2, 3: the least number", x.well(), 2, 3);
        FirstLanding y = Due.embassy("n4g0009g0050g0500g9000");
        DUE.asked(y, "0, 3 is 9, 1, 2 is 6", y.well(), 2, 6);
        FirstLanding z = Due.embassy("n4g0000g0000g0005g0050");
        DUE.asked(z, "more people ahead of a lesser number", z.well(), 2, 12);
    }

    private static void wellRefused() {
        FirstLanding none = new FirstLanding();
        DUE.refused(none, "well() without people", none::well, STATE);
    }

    private static void addFirst() {
        FirstLanding x = Due.embassy(ALL_ALIKE);
        DUE.asked(x, "all alike: the first", x.add(0), 0, 0);
        DUE.asked(x, "all alike: the first who is not in it", x.add(3), 2, 3);
        DUE.asked(x, "the only one who is not", x.add(31), 5, 15);
        DUE.asked(x, "0 is the only one who is not", x.add(62), 0, 15);
        FirstLanding y = Due.embassy("n4g0005g0000g0000g5000");
        DUE.asked(y, "the last is the best", y.add(1), 3, 1);
        DUE.asked(y, "nobody helps: the first", y.add(2), 0, 0);
    }

    private static void addMany() {
        FirstLanding x = Due.embassy("n4g0591g5015g0000g0000");
        DUE.asked(x, "one pair of 0, 1", x.agree(3), 1, 1);
        DUE.asked(x, "2 parts them (7, 3), 3 does, too (3, 5)", x.add(3), 2, 0);
        FirstLanding y = Due.embassy("n4g0593g5013g0000g0000");
        DUE.asked(y, "3 leaves them (4, 4)", y.add(3), 3, 1);
        FirstLanding z = Due.embassy("n3v090v100v000");
        DUE.asked(z, "no pair: 0 by asked()", z.add(3), 2, 0);
    }

    private static void addNone() {
        for (int n = 2; n <= 6; n++) {
            FirstLanding x = embassyOf(n);
            Due.row(x, 0, 3);
            x.at(0, 0);
            int all = (1 << n) - 1;
            DUE.refused(x, "all " + n + " are in it", () -> x.add(all), NONE);
            DUE.is("all but the last of " + n, x.add(all >> 1), n - 1);
        }
        FirstLanding none = new FirstLanding();
        DUE.refused(none, "without people all are in it", () -> none.add(0), NONE);
    }

    private static void addRefused() {
        noSets("add", (n, set) -> refusedOf(n, x -> x.add(set)));
    }

    private static void worstMost() {
        FirstLanding x = Due.embassy("n2v09v10");
        DUE.asked(x, "8 is the most", x.worst(3), 1, 8);
        FirstLanding y = Due.embassy("n3v011v000v900");
        DUE.asked(y, "who is not there is left out: 1, 0, 9", y.worst(7), 2, 8);
        FirstLanding z = Due.embassy("n3v055v505v500");
        DUE.asked(z, "0 is enough", z.worst(7), 1, 0);
    }

    private static void worstFirst() {
        FirstLanding x = Due.embassy("n4v0911v1011v9101v1110");
        // 9, 1, 9, 1: by 8 differ 0 and 1, 0 and 3, 1 and 2, 2 and 3.
        DUE.asked(x, "the first of four", x.worst(15), 1, 8);
        FirstLanding y = Due.embassy("n4v0511v5011v1101v9110");
        // 5, 5, 1, 9: by 8 differ 2 and 3.
        DUE.asked(y, "the last of all", y.worst(15), 15, 8);
        FirstLanding six = Due.embassy("n6v511111v511111v511111v511111v111111v911111");
        DUE.asked(six, "4 and 5 of six", six.worst(48), 29, 0);
        DUE.asked(six, "alike: the first two", six.worst(62), 8, 0);
        DUE.asked(six, "with 0 among them: 1, 5, 5, 5, 1, 9", six.worst(63), 5, 8);
    }

    private static void worstNone() {
        FirstLanding x = Due.embassy("n3v010v000v000");
        Due.row(x, 0, 3);
        x.lay(0, 0, 4);
        DUE.refused(x, "none of none", () -> x.worst(0), NONE);
        DUE.refused(x, "one alone", () -> x.worst(1), NONE);
        DUE.refused(x, "one of three is there", () -> x.worst(7), NONE);
        DUE.refused(x, "nobody of two is there", () -> x.worst(6), NONE);
        FirstLanding none = new FirstLanding();
        DUE.refused(none, "without people", () -> none.worst(0), NONE);
    }

    private static void worstRefused() {
        noSets("worst", (n, set) -> refusedOf(n, x -> x.worst(set)));
    }
}

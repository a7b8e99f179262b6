/** Promises 27 to 33, a sentence at a time: the edges of steps, meetings, notes, who can know of whom. */
public final class SearchEdgesTest {
    private static final int BAD = FirstLanding.BAD, STATE = FirstLanding.STATE, NONE = FirstLanding.NONE;
    private static final int NOTHING = 1, UNLIKE = 3, SIZE = 5;
    private static final int MIN = Integer.MIN_VALUE, MAX = Integer.MAX_VALUE;
    private static final int[] NO_ROWS = {MIN, -1, 6, 7, MAX};
    // 0, 1 agree with whoever is up; 2, 3 agree with each other alone.
    private static final String TWO_PAIRS = "n4v0511v5011v9905v1150";
    // 0, 1 agree with each other alone; so do 2, 3 and 4, 5.
    private static final String THREE_PAIRS = "n6s050000s500000s000500s005000s000005s000050";
    // Each one has seen the next one: 0 has seen 1, 1 has seen 2, ..
    private static final String CHAIN = "n6g000000g100000g010000g001000g000100g000010";
    private static final Sentences SAYS = new Sentences();
    private static final Due DUE = SAYS.due;

    public static void main(String[] args) {
        searches();
        SAYS.that(0, "(a ROW of pairs: a set, what one SEEMED with it; 0 to 6 pairs: NOTHING; SIZE; UNLIKE: no set, not 0 .. 9;"
            + " behind BAD)", SearchEdgesTest::notesRefused);
        SAYS.that(29, "Which LOOKS (bits 0 .. 9) of one to another one there can be by notes of that one", SearchEdgesTest::fitsBits);
        SAYS.that(29, "all others as they are", SearchEdgesTest::fitsOthers);
        SAYS.that(29, "BAD: also the same; NOTHING; SIZE; UNLIKE.", SearchEdgesTest::fitsBad);
        SAYS.that(30, "Of which KINDS (bits) one can be by such notes.", SearchEdgesTest::kindsBits);
        SAYS.that(30, "BAD; NOTHING; SIZE; UNLIKE.", SearchEdgesTest::kindsBad);
        SAYS.that(31, "with which what one SEEMS by KINDS is of most sorts; how many by asked()", SearchEdgesTest::tellsMost);
        SAYS.that(31, "The set (by numbers) that tells most", SearchEdgesTest::tellsFirst);
        SAYS.that(31, "BAD.", SearchEdgesTest::tellsBad);
        SAYS.that(32, "PEOPLE (bits, oneself, too) of whom one can know by n (0 .. 9) steps", SearchEdgesTest::knowsChain);
        SAYS.that(32, "one knows oneself", SearchEdgesTest::knowsOneself);
        SAYS.that(32, "by each step of those whom one of these has seen (LOOKS to that one above 0)", SearchEdgesTest::knowsSeen);
        SAYS.that(32, "BAD.", SearchEdgesTest::knowsBad);
        SAYS.that(33, "The fewest such steps by which one can know of another one (0: oneself).", SearchEdgesTest::hearsFewest);
        SAYS.that(33, "NONE: never.", SearchEdgesTest::hearsNever);
        SAYS.that(33, "BAD.", SearchEdgesTest::hearsBad);
        SAYS.end("SearchEdgesTest", 27, 33);
    }

    private static void searches() {
        SAYS.that(27, "Pairs in a ROW (1 to 4 pairs, two unlike ones each)", SearchEdgesTest::stepsByPairs);
        SAYS.that(27, "each pair has AGREED, both UP, at some time (now, too)", SearchEdgesTest::stepsNow);
        SAYS.that(27, "the first step of the first such row (by numbers) by asked()", SearchEdgesTest::stepsFirst);
        SAYS.that(27, "(NONE: none is needed)", SearchEdgesTest::stepsNotNeeded);
        SAYS.that(27, "NONE: by none.", SearchEdgesTest::stepsNever);
        SAYS.that(27, "from now on so that each pair has AGREED", SearchEdgesTest::stepsAfterLongerOnes);
        SAYS.that(27, "BAD; STATE: no PEOPLE; NOTHING; SIZE: not by pairs, not so many; UNLIKE. (In this order.)",
            SearchEdgesTest::stepsRefused);
        SAYS.that(28, "The fewest first MEETINGS (LOOKS of one to others of a set, which are 0)", SearchEdgesTest::meetingsFewest);
        SAYS.that(28, "one would SEEM v (0 .. 9) with the set", SearchEdgesTest::meetingsOfEach);
        SAYS.that(28, "NONE: by none.", SearchEdgesTest::meetingsNever);
        SAYS.that(28, "BAD.", SearchEdgesTest::meetingsBad);
    }

    private static FirstLanding up(String signs, int... who) {
        FirstLanding x = Due.embassy(signs);
        for (int a : who) {
            x.step(a);
        }
        return x;
    }

    private static void steps(String what, FirstLanding x, int want, int first, int... pairs) {
        Due.row(x, 3, pairs);
        long before = x.digest();
        DUE.asked(x, what, x.steps(3), want, first);
        DUE.is(what + ": nothing is done", x.digest(), before);
    }

    private static void stepsByPairs() {
        steps("one pair", up(TWO_PAIRS), 2, 0, 0, 1);
        steps("one pair, the greater one ahead", up(TWO_PAIRS), 2, 2, 3, 2);
        steps("two pairs", up(TWO_PAIRS), 4, 2, 0, 1, 2, 3);
        steps("three pairs, one of them twice", up(TWO_PAIRS), 4, 2, 0, 1, 2, 3, 1, 0);
        steps("four pairs, both twice", up(TWO_PAIRS), 4, 2, 0, 1, 2, 3, 1, 0, 3, 2);
        steps("three pairs, one after another", up(THREE_PAIRS), 10, 0, 0, 1, 2, 3, 4, 5);
        steps("four pairs, one of them twice", up(THREE_PAIRS), 10, 0, 4, 5, 1, 0, 2, 3, 5, 4);
        FirstLanding six = Due.embassy("n6g055555g505555g550555g555055g555505g555550");
        steps("of six", six, 6, 0, 0, 1, 2, 3, 4, 5);
        steps("the last two of six", six, 2, 4, 5, 4);
    }

    private static void stepsNow() {
        steps("both up and agreed", up(TWO_PAIRS, 0, 1), 0, NONE, 0, 1);
        steps("0, 1 agree now: down with both", up(TWO_PAIRS, 0, 1), 4, 0, 0, 1, 2, 3);
        steps("2, 3 agree now: 0, 1 up", up(TWO_PAIRS, 2, 3), 2, 0, 0, 1, 2, 3);
        steps("0, 1 agree now, 2, 3 are up", up(TWO_PAIRS, 0, 1, 2, 3), 2, 0, 0, 1, 2, 3);
        // What has agreed ahead of now is no matter.
        FirstLanding x = up(TWO_PAIRS, 0, 1, 0);
        steps("agreed ahead of now", x, 1, 0, 0, 1);
        steps("one of two is up", up(TWO_PAIRS, 1), 1, 0, 0, 1);
        steps("both are not up, though they would agree", up(TWO_PAIRS), 2, 0, 1, 0);
    }

    private static void stepsFirst() {
        steps("2, 3, then 0, 1", up(TWO_PAIRS), 4, 2, 2, 3, 0, 1);
        steps("0 down first, though 1 up is as short", up(TWO_PAIRS, 0), 5, 0, 0, 1, 2, 3);
        steps("1 down first", up(TWO_PAIRS, 1), 5, 0, 0, 1, 2, 3);
        steps("2, 3 need 1 down, then 3 up", up(TWO_PAIRS, 1, 2), 2, 1, 2, 3);
        steps("4, 5 agree now: 0, 1 first", up(THREE_PAIRS, 4, 5), 8, 0, 0, 1, 2, 3, 4, 5);
        steps("3 up, then 2, 3 down", up(THREE_PAIRS, 2), 5, 3, 0, 1, 2, 3);
        steps("5 up, then 0 .. 3", up(THREE_PAIRS, 4), 9, 5, 0, 1, 2, 3, 4, 5);
        steps("0 and 1 are to go down", up(TWO_PAIRS, 0, 1, 2), 3, 0, 2, 3);
    }

    private static void stepsNotNeeded() {
        FirstLanding x = up(TWO_PAIRS, 2, 3);
        Due.row(x, 0, 7);
        x.at(0, 0);
        steps("none is needed", x, 0, NONE, 2, 3);
        steps("none is needed for four", x, 0, NONE, 2, 3, 3, 2, 2, 3, 3, 2);
    }

    private static void stepsNever() {
        FirstLanding x = Due.embassy("n3v055v505v900");
        Due.row(x, 0, 7);
        x.lay(0, 0, 7);
        Due.row(x, 1, 0, 2);
        x.at(0, 0);
        DUE.refused(x, "0 and 2 never agree", () -> x.steps(1), NONE);
        Due.row(x, 1, 0, 1, 2, 0);
        x.at(0, 0);
        DUE.refused(x, "one of two never agrees", () -> x.steps(1), NONE);
        FirstLanding y = Due.embassy("n2g00g00");
        Due.row(y, 1, 0, 1);
        DUE.refused(y, "not there", () -> y.steps(1), NONE);
        FirstLanding full = Due.embassy("n2g05g50");
        for (int i = 0; i < 40; i++) {
            full.step(0);
        }
        steps("forty deeds are no bound for steps aside", full, 2, 0, 0, 1);
    }

    /** Nothing that an earlier question came upon counts for a later one. */
    private static void stepsAfterLongerOnes() {
        int[][] never = {{0, 2}, {1, 5}, {0, 1, 0, 2}, {0, 2, 0, 1}, {2, 3, 0, 1, 3, 5}, {4, 5, 2, 3, 0, 1, 0, 5}};
        int[][] longer = {{0, 1, 2, 3, 4, 5}, {4, 5, 2, 3, 0, 1, 1, 0}, {2, 3, 4, 5}, {0, 1}};
        FirstLanding x = up(THREE_PAIRS);
        for (int[] pairs : never) {
            for (int[] earlier : longer) {
                Due.row(x, 0, earlier);
                DUE.is("a way for " + java.util.Arrays.toString(earlier), x.steps(0), earlier.length == 2 ? 2 : earlier.length == 4 ? 6 : 10);
                Due.row(x, 0, pairs);
                DUE.is("no way for " + java.util.Arrays.toString(pairs), x.steps(0), NONE);
            }
        }
        Due.write(x, 0, "n2v01v90");
        x.embassy(0);
        Due.row(x, 0, 0, 1);
        DUE.is("no way in a smaller embassy", x.steps(0), NONE);
    }

    private static void stepsRefused() {
        FirstLanding none = new FirstLanding();
        for (int r : NO_ROWS) {
            DUE.refused(none, "steps(" + r + ") without people: BAD ahead of STATE", () -> none.steps(r), BAD);
        }
        DUE.refused(none, "without people: STATE ahead of NOTHING", () -> none.steps(0), STATE);
        none.row(0, 3);
        DUE.refused(none, "without people: STATE ahead of SIZE", () -> none.steps(0), STATE);
        FirstLanding x = Due.embassy("n3g055g505g550");
        for (int r : NO_ROWS) {
            DUE.refused(x, "steps(" + r + ")", () -> x.steps(r), BAD);
        }
        DUE.finding(x, "a missing row", () -> x.steps(5), NOTHING);
        // Rows of 0 are pairs of the same one: SIZE comes ahead of UNLIKE.
        for (int size : new int[] {0, 1, 3, 5, 7, 9, 10, 11, 12, 39, 40}) {
            x.row(5, size);
            DUE.finding(x, "a row of " + size, () -> x.steps(5), SIZE);
        }
        for (int size : new int[] {2, 4, 6, 8}) {
            x.row(5, size);
            DUE.finding(x, "the same ones, a row of " + size, () -> x.steps(5), UNLIKE);
        }
        int[][] unlike = {{0, 3}, {3, 0}, {-1, 0}, {0, -1}, {MIN, MAX}, {2, 2}, {0, 1, 1, 1}, {0, 1, 0, 1, 0, 1, 2, 3}};
        for (int[] row : unlike) {
            Due.row(x, 5, row);
            DUE.finding(x, java.util.Arrays.toString(row), () -> x.steps(5), UNLIKE);
        }
    }

    /** The fewest meetings for the first of six of a kind, by its looks to the others (to itself they are 9). */
    private static int meetings(char kind, String looks, int set, int v) {
        String others = "g000000g000000g000000g000000g000000";
        FirstLanding x = Due.embassy("n6" + kind + "9" + looks + others);
        long before = Due.told(x);
        int answer = x.meetings(0, set, v);
        DUE.is("meetings are aside", Due.told(x), before);
        return answer;
    }

    private static void meetingsFewest() {
        DUE.is("none, as it is", meetings('g', "55555", 63, 5), 0);
        DUE.is("a guest: five for 9", meetings('g', "00000", 63, 9), 5);
        DUE.is("a guest: five by looks of 8 and 9", meetings('g', "00000", 63, 8), 5);
        DUE.is("a guest: one for 1 (5 by 5)", meetings('g', "00000", 63, 1), 1);
        DUE.is("a guest: two for 2 (10 by 5)", meetings('g', "00000", 63, 2), 2);
        DUE.is("a guest: two for 3 (15, up to 18)", meetings('g', "00000", 63, 3), 2);
        DUE.is("a guest: three for 4 (20)", meetings('g', "00000", 63, 4), 3);
        DUE.is("a guest: 0 by a mean that is cut", meetings('g', "00004", 63, 0), 0);
        DUE.is("an envoy: one", meetings('e', "00000", 63, 9), 1);
        DUE.is("a spy: all five", meetings('s', "00000", 63, 1), 5);
        DUE.is("a spy: only those of the set", meetings('s', "00000", 34, 1), 2);
        DUE.is("a spy: one of five is 0", meetings('s', "77077", 63, 7), 1);
        DUE.is("a spy: less than what is there", meetings('s', "77077", 63, 3), 1);
        DUE.is("a valet: to the first", meetings('v', "05555", 63, 9), 1);
        DUE.is("a chief: 9", meetings('c', "00000", 63, 9), 1);
        DUE.is("a chief: 2", meetings('c', "10000", 63, 2), 0);
        DUE.is("a child: one below", meetings('k', "05050", 63, 4), 1);
        DUE.is("a child: any one", meetings('k', "00000", 63, 9), 1);
        DUE.is("a spy who is the last: both others", Due.embassy("n3g000g000s000").meetings(2, 7, 5), 2);
        DUE.is("a guest between: the first one", Due.embassy("n3g000g000g000").meetings(1, 1, 5), 1);
    }

    private static void meetingsOfEach() {
        for (int v = 0; v <= 9; v++) {
            int due = v == 0 ? 0 : 1;
            for (char kind : "gesvk".toCharArray()) {
                DUE.is(kind + " seems " + v + " with one", meetings(kind, "00000", 2, v), due);
            }
            DUE.is("a chief seems " + v + " with one", meetings('c', "00000", 2, v), v == 1 ? NONE : due);
            for (char kind : "gesvck".toCharArray()) {
                DUE.is(kind + " seems " + v + " with nobody", meetings(kind, "00000", 0, v), v == 0 ? 0 : NONE);
                DUE.is(kind + " seems " + v + " with oneself alone", meetings(kind, "00000", 1, v), v == 0 ? 0 : NONE);
            }
        }
    }

    private static void meetingsNever() {
        DUE.is("looks that are not 0 stay: a guest", meetings('g', "50000", 2, 6), NONE);
        DUE.is("a guest: not as little", meetings('g', "55555", 63, 4), NONE);
        DUE.is("a guest: not as much (5 + 36 by 5)", meetings('g', "50000", 63, 9), NONE);
        DUE.is("an envoy: not below what is there", meetings('e', "70000", 63, 6), NONE);
        DUE.is("a spy: not above what is there", meetings('s', "70000", 63, 8), NONE);
        DUE.is("a spy: 0 never, if all were seen", meetings('s', "11111", 63, 0), NONE);
        DUE.is("a valet: the first was seen", meetings('v', "50000", 63, 4), NONE);
        DUE.is("a chief: never 1", meetings('c', "00000", 63, 1), NONE);
        DUE.is("a child: not above what is there", meetings('k', "70000", 63, 8), NONE);
        DUE.is("a child: 0 never, if one was seen", meetings('k', "70000", 63, 0), NONE);
        DUE.is("not by those who are not of the set", meetings('e', "70000", 2, 9), NONE);
        DUE.is("not by oneself", meetings('e', "70000", 3, 9), NONE);
    }

    private static void meetingsBad() {
        FirstLanding x = Due.embassy("n3g000g000g000");
        for (int a : new int[] {MIN, -1, 3, 6, MAX}) {
            DUE.refused(x, "meetings(" + a + ", 1, 1)", () -> x.meetings(a, 1, 1), BAD);
        }
        for (int set : new int[] {MIN, -1, 8, 64, MAX}) {
            DUE.refused(x, "meetings(0, " + set + ", 1)", () -> x.meetings(0, set, 1), BAD);
        }
        for (int v : new int[] {MIN, -1, 10, 11, MAX}) {
            DUE.refused(x, "meetings(0, 2, " + v + ")", () -> x.meetings(0, 2, v), BAD);
        }
        FirstLanding none = new FirstLanding();
        DUE.refused(none, "meetings(0, 0, 0) without people", () -> none.meetings(0, 0, 0), BAD);
    }

    private static void notesRefused() {
        FirstLanding x = Due.embassy("n3e042g104k330");
        notes(x, "a missing row", NOTHING);
        for (int size : new int[] {1, 3, 5, 7, 9, 11, 13, 14, 15, 39, 40}) {
            x.row(1, size);
            notes(x, "a row of " + size, SIZE);
            x.lay(1, 0, -1);
            notes(x, "SIZE ahead of UNLIKE, a row of " + size, SIZE);
        }
        for (int size = 0; size <= 12; size += 2) {
            x.row(1, size);
            DUE.is("fits by " + size / 2 + " notes of nobody", x.fits(0, 1, 1), 1023);
            DUE.is("kinds by " + size / 2 + " notes of nobody", x.kinds(0, 1), 63);
        }
        int[][] unlike = {{8, 0}, {-1, 0}, {MIN, 0}, {MAX, 0}, {64, 0}, {0, 10}, {0, -1}, {0, MIN}, {0, MAX}, {0, 0, 8, 0},
            {0, 0, 0, 0, 0, 0, 0, 0, 0, 0, 0, 10}, {0, 5, 7, 10}};
        for (int[] row : unlike) {
            Due.row(x, 1, row);
            notes(x, java.util.Arrays.toString(row), UNLIKE);
        }
        Due.row(x, 1, 7, 9, 7, 0);
        DUE.is("the greatest set, 9 and 0 are fine", x.kinds(0, 1), 0);
    }

    private static void notes(FirstLanding x, String what, int finding) {
        DUE.finding(x, "fits: " + what, () -> x.fits(0, 1, 1), finding);
        DUE.finding(x, "kinds: " + what, () -> x.kinds(0, 1), finding);
        DUE.refused(x, "fits, BAD ahead: " + what, () -> x.fits(1, 1, 1), BAD);
        DUE.refused(x, "kinds, BAD ahead: " + what, () -> x.kinds(3, 1), BAD);
    }

    private static int fits(String signs, int a, int b, int... notes) {
        FirstLanding x = Due.embassy(signs);
        Due.row(x, 0, notes);
        long before = Due.told(x);
        int answer = x.fits(a, b, 0);
        DUE.is("fits is aside", Due.told(x), before);
        return answer;
    }

    private static void fitsBits() {
        DUE.is("no notes: bits 0 .. 9", fits("n2g00g00", 0, 1), 1023);
        for (int v = 0; v <= 9; v++) {
            DUE.is("bit " + v + " alone", fits("n2g05g00", 0, 1, 2, v), 1 << v);
            DUE.is("a chief who seemed " + v, fits("n2c05g00", 0, 1, 2, v), v == 0 ? 1 : v == 1 ? 0 : v == 9 ? 768 : 1 << v - 1);
        }
        DUE.is("with nobody one seems 0: all", fits("n2g05g00", 0, 1, 0, 0), 1023);
        DUE.is("with oneself, too", fits("n2g05g00", 0, 1, 1, 0), 1023);
        DUE.is("with nobody not 1: none", fits("n2g05g00", 0, 1, 0, 1), 0);
        DUE.is("two notes that don't go together", fits("n2g05g00", 0, 1, 2, 4, 3, 5), 0);
        DUE.is("two notes that do", fits("n2g05g00", 0, 1, 2, 4, 3, 4), 16);
        DUE.is("six notes", fits("n2g05g00", 0, 1, 2, 9, 2, 9, 2, 9, 2, 9, 2, 9, 3, 9), 512);
        DUE.is("the sixth note counts", fits("n2g05g00", 0, 1, 2, 9, 2, 9, 2, 9, 2, 9, 2, 9, 3, 8), 0);
    }

    private static void fitsOthers() {
        DUE.is("an envoy: the other look is greatest", fits("n3e007g000g000", 0, 1, 6, 7), 255);
        DUE.is("an envoy: more than the other look", fits("n3e007g000g000", 0, 1, 6, 8), 256);
        DUE.is("an envoy: less than the other look", fits("n3e007g000g000", 0, 1, 6, 6), 0);
        DUE.is("one of whom no note tells: all", fits("n3e007g000g000", 0, 1, 4, 7), 1023);
        DUE.is("a guest: 4 and 5 by 2 with 4", fits("n3g004g000g000", 0, 1, 6, 4), 48);
        DUE.is("a child: 0, and what is not below", fits("n3k004g000g000", 0, 1, 6, 4), 1 | 1023 & ~15);
        DUE.is("a spy: what is not below", fits("n3s004g000g000", 0, 1, 6, 4), 1023 & ~15);
        DUE.is("a valet: the first alone", fits("n3v004g000g000", 0, 2, 6, 0), 1023);
    }

    private static void fitsBad() {
        FirstLanding x = Due.embassy("n3g111g111g111");
        Due.row(x, 0);
        for (int a : new int[] {MIN, -1, 3, 6, MAX}) {
            DUE.refused(x, "fits(" + a + ", 0, 0)", () -> x.fits(a, 0, 0), BAD);
            DUE.refused(x, "fits(0, " + a + ", 0)", () -> x.fits(0, a, 0), BAD);
        }
        for (int a = 0; a < 3; a++) {
            int who = a;
            DUE.refused(x, "the same: " + a, () -> x.fits(who, who, 0), BAD);
        }
        for (int r : NO_ROWS) {
            DUE.refused(x, "fits(0, 1, " + r + ")", () -> x.fits(0, 1, r), BAD);
        }
        FirstLanding none = new FirstLanding();
        none.row(0, 0);
        DUE.refused(none, "fits(0, 1, 0) without people", () -> none.fits(0, 1, 0), BAD);
        DUE.refused(none, "fits(0, 1, 1) without people, a missing row", () -> none.fits(0, 1, 1), BAD);
    }

    private static int kinds(String signs, int a, int... notes) {
        FirstLanding x = Due.embassy(signs);
        Due.row(x, 0, notes);
        long before = Due.told(x);
        int answer = x.kinds(a, 0);
        DUE.is("kinds is aside", Due.told(x), before);
        return answer;
    }

    private static void kindsBits() {
        // With 4, 0, 7, 2: guest 3, envoy 7, spy 0, valet 4, chief 8, child 2.
        String signs = "n5g94072g00000g00000g00000g00000";
        int[] seems = {3, 7, 0, 4, 8, 2};
        for (int kind = 0; kind < 6; kind++) {
            DUE.is("bit " + kind + " alone", kinds(signs, 0, 30, seems[kind]), 1 << kind);
        }
        for (int v : new int[] {1, 5, 6, 9}) {
            DUE.is("none seems " + v, kinds(signs, 0, 30, v), 0);
        }
        DUE.is("no notes: all", kinds(signs, 0), 63);
        DUE.is("with nobody one seems 0: all", kinds(signs, 0, 0, 0, 1, 0), 63);
        DUE.is("with nobody not 9: none", kinds(signs, 0, 0, 9), 0);
        DUE.is("with one: all but the chief", kinds(signs, 0, 2, 4), 47);
        DUE.is("with one: the chief", kinds(signs, 0, 2, 5), 16);
        DUE.is("with one who is 0: all", kinds(signs, 0, 4, 0), 63);
        DUE.is("one's own kind is no matter", kinds("n2k05v50", 0, 2, 6), 16);
        DUE.is("notes that don't go together", kinds(signs, 0, 30, 7, 30, 8), 0);
    }

    private static void kindsBad() {
        FirstLanding x = Due.embassy("n3g111g111g111");
        Due.row(x, 0);
        for (int a : new int[] {MIN, -1, 3, 6, MAX}) {
            DUE.refused(x, "kinds(" + a + ", 0)", () -> x.kinds(a, 0), BAD);
            DUE.refused(x, "kinds(" + a + ", 1), a missing row", () -> x.kinds(a, 1), BAD);
        }
        for (int r : NO_ROWS) {
            DUE.refused(x, "kinds(0, " + r + ")", () -> x.kinds(0, r), BAD);
        }
        FirstLanding none = new FirstLanding();
        none.row(0, 0);
        DUE.refused(none, "kinds(0, 0) without people", () -> none.kinds(0, 0), BAD);
    }

    private static void tellsMost() {
        FirstLanding x = Due.embassy("n5g94072k00000s90000v19000c11900");
        DUE.asked(x, "all six apart: 3, 7, 0, 4, 8, 2", x.tells(0), 30, 6);
        DUE.asked(x, "all 0: one sort, with nobody", x.tells(1), 0, 1);
        DUE.asked(x, "9 alone: one sort; with 1, too: 4, 9, 0, 9, 9, 9", x.tells(2), 3, 3);
        DUE.is("kinds are as they were", x.seems(1, 1), 0);
        FirstLanding y = Due.embassy("n2g05e90");
        DUE.asked(y, "5, and 6 for a chief", y.tells(0), 2, 2);
        DUE.asked(y, "9, and 9 for a chief: as with nobody", y.tells(1), 0, 1);
    }

    private static void tellsFirst() {
        FirstLanding x = Due.embassy("n4g5550g0000g0000g0000");
        DUE.asked(x, "with 1, 3 or 2, 3: the first (2, 5, 0, 5, 6, 5)", x.tells(0), 10, 4);
        FirstLanding y = Due.embassy("n3g055g505g550");
        DUE.asked(y, "0: with 1", y.tells(0), 2, 2);
        DUE.asked(y, "1: with 0", y.tells(1), 1, 2);
        DUE.asked(y, "2: with 0", y.tells(2), 1, 2);
    }

    private static void tellsBad() {
        FirstLanding x = Due.embassy("n3g111g111g111");
        x.tells(0);
        for (int a : new int[] {MIN, -1, 3, 6, MAX}) {
            DUE.refused(x, "tells(" + a + ")", () -> x.tells(a), BAD);
        }
        FirstLanding none = new FirstLanding();
        DUE.refused(none, "tells(0) without people", () -> none.tells(0), BAD);
    }

    private static void knowsChain() {
        FirstLanding x = Due.embassy(CHAIN);
        for (int n = 0; n <= 9; n++) {
            DUE.is("knows(0, " + n + ")", x.knows(0, n), (1 << Math.min(6, n + 1)) - 1);
            DUE.is("knows(5, " + n + "): oneself alone", x.knows(5, n), 32);
            DUE.is("knows(3, " + n + ")", x.knows(3, n), n == 0 ? 8 : n == 1 ? 24 : 56);
        }
    }

    private static void knowsOneself() {
        FirstLanding x = Due.embassy("n6g000000g000000g000000g000000g000000g000009");
        for (int a = 0; a < 6; a++) {
            DUE.is("by no step: " + a, x.knows(a, 0), 1 << a);
            DUE.is("by nine steps, whatever one's own look: " + a, x.knows(a, 9), 1 << a);
        }
    }

    private static void knowsSeen() {
        FirstLanding x = Due.embassy("n3g000g100g000");
        DUE.is("0 has seen 1", x.knows(0, 1), 3);
        DUE.is("1 has not seen 0", x.knows(1, 1), 2);
        DUE.is("looks of 0 are no matter", x.knows(2, 9), 4);
        x.meet(2, 1, 1);
        DUE.is("1 has met 2", x.knows(1, 1), 6);
        DUE.is("0 knows of 2 by two steps", x.knows(0, 2), 7);
        DUE.is("not by one", x.knows(0, 1), 3);
        x.step(0);
        DUE.is("who is up is no matter", x.knows(0, 1), 3);
        FirstLanding two = Due.embassy("n4g0000g1000g1000g0110");
        DUE.is("1 and 2 have both seen 3", two.knows(0, 2), 15);
    }

    private static void knowsBad() {
        FirstLanding x = Due.embassy(CHAIN);
        for (int a : new int[] {MIN, -1, 6, 7, MAX}) {
            DUE.refused(x, "knows(" + a + ", 0)", () -> x.knows(a, 0), BAD);
        }
        for (int n : new int[] {MIN, -1, 10, 11, MAX}) {
            DUE.refused(x, "knows(0, " + n + ")", () -> x.knows(0, n), BAD);
        }
        FirstLanding none = new FirstLanding();
        DUE.refused(none, "knows(0, 0) without people", () -> none.knows(0, 0), BAD);
    }

    private static void hearsFewest() {
        FirstLanding x = Due.embassy(CHAIN);
        for (int a = 0; a < 6; a++) {
            for (int b = a; b < 6; b++) {
                DUE.is("hears(" + a + ", " + b + ")", x.hears(a, b), b - a);
            }
        }
        x.meet(5, 0, 9);
        DUE.is("a shorter way", x.hears(0, 5), 1);
        FirstLanding own = Due.embassy("n2g90g09");
        DUE.is("0: oneself, by whatever look", own.hears(1, 1), 0);
    }

    private static void hearsNever() {
        FirstLanding x = Due.embassy(CHAIN);
        for (int a = 0; a < 6; a++) {
            for (int b = 0; b < a; b++) {
                int who = a;
                int whom = b;
                DUE.refused(x, "hears(" + a + ", " + b + ")", () -> x.hears(who, whom), NONE);
            }
        }
        x.meet(0, 5, 1);
        DUE.is("round by 0", x.hears(5, 4), 5);
        DUE.is("now one can", x.hears(1, 0), 5);
    }

    private static void hearsBad() {
        FirstLanding x = Due.embassy("n3g111g111g111");
        for (int a : new int[] {MIN, -1, 3, 6, MAX}) {
            DUE.refused(x, "hears(" + a + ", 0)", () -> x.hears(a, 0), BAD);
            DUE.refused(x, "hears(0, " + a + ")", () -> x.hears(0, a), BAD);
            DUE.refused(x, "hears(" + a + ", " + a + ")", () -> x.hears(a, a), BAD);
        }
        FirstLanding none = new FirstLanding();
        DUE.refused(none, "hears(0, 0) without people", () -> none.hears(0, 0), BAD);
    }
}

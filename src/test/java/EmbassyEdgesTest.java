/** The language of section 1 and promises 10 to 14, a sentence at a time: the edges of texts, embassies, people. */
public final class EmbassyEdgesTest {
    private static final int BAD = FirstLanding.BAD, STATE = FirstLanding.STATE, NONE = FirstLanding.NONE;
    private static final int NOTHING = 1, UNLIKE = 3;
    private static final int MIN = Integer.MIN_VALUE, MAX = Integer.MAX_VALUE;
    private static final int[] NO_TEXTS = {MIN, -1, 4, 5, MAX};
    private static final Sentences SAYS = new Sentences();
    private static final Due DUE = SAYS.due;

    public static void main(String[] args) {
        language();
        SAYS.that(10, "A FAULT of a TEXT; NONE: there is none.", EmbassyEdgesTest::faultTold);
        SAYS.that(10, "BAD; NOTHING.", EmbassyEdgesTest::faultRefused);
        SAYS.that(11, "how many PEOPLE.", EmbassyEdgesTest::embassyOfEachSize);
        SAYS.that(11, "(anew: nobody UP, no TREATIES, no DEEDS; kept EMBASSIES go)", EmbassyEdgesTest::embassyAnew);
        SAYS.that(11, "An EMBASSY by a TEXT (anew:", EmbassyEdgesTest::embassyAfterLarger);
        SAYS.that(11, "BAD; NOTHING; STATE: a FAULT. (STATE behind NOTHING.)", EmbassyEdgesTest::embassyRefused);
        SAYS.that(12, "0 the KIND", EmbassyEdgesTest::personKind);
        SAYS.that(12, "1 whether one is UP (1, 0)", EmbassyEdgesTest::personUp);
        SAYS.that(12, "2 what one SEEMS with who is UP", EmbassyEdgesTest::personSeems);
        SAYS.that(12, "3 how many TREATIES one has", EmbassyEdgesTest::personTreaties);
        SAYS.that(12, "4 to how many others one made none (LOOKS 0)", EmbassyEdgesTest::personUnmade);
        SAYS.that(12, "BAD.", EmbassyEdgesTest::personRefused);
        SAYS.that(13, "LOOKS of one to one (also the same).", EmbassyEdgesTest::looksOfAll);
        SAYS.that(13, "BAD.", EmbassyEdgesTest::looksRefused);
        marks();
        SAYS.end("EmbassyEdgesTest", 10, 14);
    }

    private static void language() {
        SAYS.that(0, "blanks (32) ahead, between, behind as many as wanted", EmbassyEdgesTest::blanksAround);
        SAYS.that(0, "none within items", EmbassyEdgesTest::blanksWithin);
        SAYS.that(0, "First n (110) and how many PEOPLE there are (2 .. 6, one figure).", EmbassyEdgesTest::begins);
        SAYS.that(0, "Then as many of them (0, 1, .. as they come)", EmbassyEdgesTest::asManyAsTold);
        SAYS.that(0, "a letter, its LOOKS to each (0, 1, ..; itself, too) when first seen", EmbassyEdgesTest::looksToEach);
        SAYS.that(0, "(0 .. 9, one figure each; 0: none were seen)", EmbassyEdgesTest::figures);
        SAYS.that(0, "(a letter, a figure that is none such, one more than there are: its place;", EmbassyEdgesTest::faultPlaces);
        SAYS.that(0, "the TEXT's size, if its end comes too early", EmbassyEdgesTest::endsTooEarly);
        SAYS.that(0, "or there are blanks alone", EmbassyEdgesTest::blanksAlone);
        SAYS.that(0, "0 GUEST (g, 103), 1 ENVOY (e, 101; a GUEST), 2 SPY (s, 115; a GUEST), 3 VALET (v, 118; a GUEST),"
            + " 4 CHIEF (c, 99; an ENVOY), 5 CHILD (k, 107; a SPY).", EmbassyEdgesTest::letters);
        SAYS.that(0, "TEXTS 0 .. 3 rows of 0 to 60 bytes", EmbassyEdgesTest::longestText);
    }

    private static void marks() {
        SAYS.that(14, "What one that IS of a KIND tells", EmbassyEdgesTest::markOfKinds);
        SAYS.that(14, "to whom its LOOKS are greatest (of others, the least number)", EmbassyEdgesTest::markEnvoy);
        SAYS.that(14, "to whom they are least (of others, the least number)", EmbassyEdgesTest::markSpy);
        SAYS.that(14, "how many others it would SEEM nothing to, if alone with each", EmbassyEdgesTest::markValet);
        SAYS.that(14, "a CHIEF how many CHIEFS there are", EmbassyEdgesTest::markChief);
        SAYS.that(14, "how many others have made none to it (LOOKS of these to it 0)", EmbassyEdgesTest::markChild);
        SAYS.that(14, "BAD: also KIND 0; UNLIKE.", EmbassyEdgesTest::markRefused);
    }

    /** The FAULT of these signs, and that they are an EMBASSY, if there is none, and else not. */
    private static void fault(String signs, int want) {
        FirstLanding x = new FirstLanding();
        Due.write(x, 3, signs);
        DUE.is("fault of '" + signs + "'", x.fault(3), want);
        int people = x.embassy(3);
        DUE.is("embassy of '" + signs + "'", people == STATE || people >= 2 && people <= 6 ? 1 : 0, 1);
        DUE.is("STATE, if there is a FAULT: '" + signs + "'", people == STATE ? 1 : 0, want == NONE ? 0 : 1);
        DUE.is("people of '" + signs + "'", x.count(0), Math.max(0, people));
    }

    private static void blanksAround() {
        fault("n2g00g00", NONE);
        fault(" n2g00g00", NONE);
        fault("n2 g00g00", NONE);
        fault("n2g00 g00", NONE);
        fault("n2g00g00 ", NONE);
        fault("     n2      e12         k34       ", NONE);
        fault("\tn2g00g00", 0);
        fault("n2\tg00g00", 2);
        fault("n2g00\ng00", 5);
        fault("n2g00g00\u0000", 8);
        fault("n2g00g00\u00a0", 8);
        fault("\u0000n2g00g00", 0);
    }

    private static void blanksWithin() {
        fault("n 2g00g00", 1);
        fault("n 2 g00 g00", 1);
        fault("n2g 00g00", 3);
        fault("n2g0 0g00", 4);
        fault("n2g00g 00", 6);
        fault("n2g00g0 0", 7);
        fault("n2g00g0 ", 7);
        fault("n ", 1);
    }

    private static void begins() {
        String[] people = {"", "g0", "g00g00", "g000g000g000", "g0000g0000g0000g0000", "g00000g00000g00000g00000g00000",
            "g000000g000000g000000g000000g000000g000000", "g0000000g0000000g0000000g0000000g0000000g0000000g0000000"};
        for (int n = 0; n <= 7; n++) {
            fault("n" + n + people[n], n >= 2 && n <= 6 ? NONE : 1);
        }
        fault("n8", 1);
        fault("n9", 1);
        fault("n/", 1);
        fault("n:", 1);
        fault("n-2", 1);
        fault("n12g00g00", 1);
        fault("n02g00g00", 1);
        fault("n20g00g00", 2);
        fault("n66", 2);
        fault("ng", 1);
        fault("N2g00g00", 0);
        fault("m2g00g00", 0);
        fault("o2g00g00", 0);
        fault("2g00g00", 0);
        fault("g00g00", 0);
    }

    private static void asManyAsTold() {
        fault("n2g00", 5);
        fault("n2g00g00g00", 8);
        fault("n2g00g00 g00", 9);
        fault("n3g000g000", 10);
        fault("n3g000g000g000g000", 14);
        fault("n6g000000g000000g000000g000000g000000", 37);
        FirstLanding x = Due.embassy("n6 g000000 e000000 s000000 v000000 c000000 k000000");
        for (int a = 0; a < 6; a++) {
            DUE.asked(x, "the kind of " + a + " as they come", x.person(a, 0), 1, a);
        }
    }

    private static void looksToEach() {
        FirstLanding x = Due.embassy("n3g123e456s789");
        for (int a = 0; a < 3; a++) {
            for (int b = 0; b < 3; b++) {
                DUE.is("looks(" + a + ", " + b + ")", x.looks(a, b), 3 * a + b + 1);
            }
        }
        fault("n3g12e456s789", 5);
        fault("n3g1234e456s789", 6);
        fault("n3g123e456s78", 13);
    }

    private static void figures() {
        for (int sign = -128; sign <= 127; sign++) {
            FirstLanding x = new FirstLanding();
            Due.write(x, 0, "n2g00g00");
            x.put(0, 4, sign);
            boolean is = sign >= '0' && sign <= '9';
            DUE.is("fault with " + sign + " as a figure", x.fault(0), is ? NONE : 4);
            DUE.is("embassy with " + sign + " as a figure", x.embassy(0), is ? 2 : STATE);
            if (is) {
                DUE.is("looks of " + sign, x.looks(0, 1), sign - '0');
            }
        }
    }

    private static void faultPlaces() {
        fault("x", 0);
        fault("   x", 3);
        fault("n2x00g00", 2);
        fault("n2   x00g00", 5);
        fault("n2g00x00", 5);
        fault("n2gg0g00", 3);
        fault("n2g0gg00", 4);
        fault("n2g00g0g", 7);
        fault("n2g00g000", 8);
        fault("n2g00g00x", 8);
        fault("n2g00g00   x", 11);
        fault("n2g00g00n", 8);
        fault("n2n2g00g00", 2);
        fault("x2g00g00x", 0);
        // The first place, though there is a fault further on.
        fault("n2g0xg0x", 4);
        // Nothing is wrong up to the 60th sign.
        fault("n2g00g00" + " ".repeat(51) + "x", 59);
    }

    private static void endsTooEarly() {
        String whole = "n2g01k23";
        for (int size = 0; size < whole.length(); size++) {
            fault(whole.substring(0, size), size);
        }
        fault(whole, NONE);
        fault("n2 ", 3);
        fault("n2   ", 5);
        fault("n2g00 ", 6);
        fault("n2g00" + " ".repeat(55), 60);
        fault(" ".repeat(59) + "n", 60);
        fault(" ".repeat(58) + "n2", 60);
        fault(" ".repeat(53) + "n2g00g0", 60);
    }

    private static void blanksAlone() {
        for (int size = 0; size <= 60; size++) {
            fault(" ".repeat(size), size);
        }
    }

    private static void letters() {
        for (int sign = -128; sign <= 127; sign++) {
            FirstLanding x = new FirstLanding();
            Due.write(x, 0, "n2g00g00");
            x.put(0, 5, sign);
            int kind = "gesvck".indexOf((char) sign);
            // With a blank the place behind it is where a letter is due.
            int place = sign == ' ' ? 6 : 5;
            DUE.is("fault with " + sign + " as a letter", x.fault(0), kind >= 0 ? NONE : place);
            DUE.is("embassy with " + sign + " as a letter", x.embassy(0), kind >= 0 ? 2 : STATE);
            if (kind >= 0) {
                DUE.asked(x, "the kind of " + sign, x.person(1, 0), 1, kind);
            }
        }
        for (int sign = -128; sign <= 127; sign++) {
            FirstLanding x = new FirstLanding();
            Due.write(x, 0, "n2g00g00");
            x.put(0, 0, sign);
            DUE.is("fault with " + sign + " at first", x.fault(0), sign == 'n' ? NONE : sign == ' ' ? 1 : 0);
            x.put(0, 0, 'n');
            x.put(0, 1, sign);
            int people = sign - '0';
            int due = people == 2 ? NONE : people >= 3 && people <= 6 ? 5 : 1;
            DUE.is("fault with " + sign + " as how many", x.fault(0), due);
        }
    }

    private static void longestText() {
        String six = "n6g000000e111111s222222v333333c444444k555555";
        fault(six + " ".repeat(16), NONE);
        fault(" ".repeat(16) + six, NONE);
        fault(" ".repeat(17) + six.substring(0, 43), 60);
        fault(six + " ".repeat(15) + "k", 59);
    }

    private static void faultTold() {
        FirstLanding x = Due.embassy("n2g05g50");
        x.step(0);
        x.keep(1);
        x.text(3, 60);
        long before = Due.told(x);
        DUE.is("the size of the longest", x.fault(3), 60);
        DUE.is("NONE", x.fault(0), NONE);
        DUE.is("nothing changes by either", Due.told(x), before);
        x.put(0, 0, 110 + 256);
        DUE.is("a byte that is cut is n, too", x.fault(0), NONE);
        x.text(1, 0);
        DUE.is("of an empty text", x.fault(1), 0);
    }

    private static void faultRefused() {
        FirstLanding x = Due.embassy("n2g05g50");
        for (int t : NO_TEXTS) {
            DUE.refused(x, "fault(" + t + ")", () -> x.fault(t), BAD);
        }
        for (int t = 1; t <= 3; t++) {
            int text = t;
            DUE.finding(x, "fault of missing text " + t, () -> x.fault(text), NOTHING);
        }
    }

    private static void embassyOfEachSize() {
        FirstLanding x = new FirstLanding();
        for (int n : new int[] {6, 2, 5, 3, 4, 6}) {
            StringBuilder signs = new StringBuilder("n").append(n);
            for (int a = 0; a < n; a++) {
                signs.append("gesvck".charAt(a)).append("123456789".substring(0, n));
            }
            Due.write(x, n % 4, signs.toString());
            DUE.is("embassy of " + n, x.embassy(n % 4), n);
            DUE.is("people of " + n, x.count(0), n);
            DUE.is("the last one's look", x.looks(n - 1, n - 1), n);
            DUE.refused(x, "one more of " + n, () -> x.looks(0, n), BAD);
            DUE.refused(x, "one more of " + n + ", to the first", () -> x.looks(n, 0), BAD);
            DUE.refused(x, "a set that is none of " + n, () -> x.there(1 << n), BAD);
            DUE.is("the set of all " + n, x.there((1 << n) - 1), (1 << n) - 1);
        }
    }

    private static void embassyAnew() {
        FirstLanding x = Due.embassy("n3g055g505g500");
        long atFirst = x.digest();
        x.step(0);
        x.step(1);
        x.treat(0, 1);
        x.meet(2, 1, 9);
        x.keep(0);
        x.keep(1);
        x.keep(2);
        DUE.is("by the same text", x.embassy(0), 3);
        DUE.is("all is as at first", x.digest(), atFirst);
        DUE.is("nobody up", x.count(1), 0);
        DUE.is("no deeds", x.count(2), 0);
        DUE.is("no treaties", x.count(3), 0);
        DUE.is("a meeting is forgotten", x.looks(2, 1), 0);
        DUE.is("none kept", x.count(9), 0);
        for (int k = 0; k <= 2; k++) {
            int place = k;
            DUE.finding(x, "on(" + k + ")", () -> x.on(place), NOTHING);
        }
        DUE.refused(x, "no deed to undo", () -> x.undo(0), BAD);
        for (int i = 0; i < 40; i++) {
            x.step(0);
        }
        x.embassy(0);
        DUE.is("forty deeds more can be done", x.step(0), 1);
    }

    private static void embassyAfterLarger() {
        String small = "n2e05k50";
        String large = "n6c999999c999999c999999c999999c999999c999999";
        FirstLanding x = new FirstLanding();
        Due.write(x, 0, large);
        x.embassy(0);
        for (int a = 0; a < 6; a++) {
            x.step(a);
        }
        x.treat(0, 5);
        x.treat(0, 1);
        x.keep(1);
        Due.write(x, 0, small);
        DUE.is("fewer people", x.embassy(0), 2);
        FirstLanding y = Due.embassy(small);
        DUE.is("nothing is left of more people", x.digest(), y.digest());
        for (int a = 0; a < 2; a++) {
            for (int kind = 1; kind <= 5; kind++) {
                DUE.is("mark(" + a + ", " + kind + ")", x.mark(a, kind), y.mark(a, kind));
            }
            DUE.is("tells(" + a + ")", x.tells(a), y.tells(a));
            DUE.is("knows(" + a + ", 9)", x.knows(a, 9), y.knows(a, 9));
        }
        DUE.is("well()", x.well(), y.well());
        DUE.is("missions(2)", x.missions(2), y.missions(2));
        Due.write(x, 0, large);
        DUE.is("more people again", x.embassy(0), 6);
        DUE.is("nothing is left of fewer people", x.digest(), Due.embassy(large).digest());
    }

    private static void embassyRefused() {
        FirstLanding x = Due.embassy("n3g055g505g500");
        x.step(0);
        x.step(1);
        x.treat(0, 1);
        x.keep(2);
        for (int t : NO_TEXTS) {
            DUE.refused(x, "embassy(" + t + ")", () -> x.embassy(t), BAD);
        }
        DUE.finding(x, "embassy by a missing text", () -> x.embassy(3), NOTHING);
        x.text(3, 0);
        DUE.refused(x, "embassy by an empty text", () -> x.embassy(3), STATE);
        Due.write(x, 1, "n2k99k99k");
        DUE.refused(x, "a fault at the very end", () -> x.embassy(1), STATE);
        Due.write(x, 1, "n6k999999k99999");
        DUE.refused(x, "an end that is too early", () -> x.embassy(1), STATE);
        DUE.is("what was kept is there yet", x.on(2), 3);
        DUE.is("with its looks", x.looks(0, 1), 5);
        DUE.is("and its treaty", x.count(3), 1);
        FirstLanding none = new FirstLanding();
        Due.write(none, 0, "n2g00g0x");
        DUE.refused(none, "a fault without people", () -> none.embassy(0), STATE);
        DUE.is("no people yet", none.count(0), 0);
    }

    private static void personKind() {
        FirstLanding x = Due.embassy("n6k000000c000000v000000s000000e000000g000000");
        for (int a = 0; a < 6; a++) {
            DUE.asked(x, "kind of " + a, x.person(a, 0), 1, 5 - a);
        }
    }

    private static void personUp() {
        FirstLanding x = Due.embassy("n2g00g00");
        DUE.asked(x, "not at first", x.person(1, 1), 1, 0);
        x.step(1);
        DUE.asked(x, "up", x.person(1, 1), 1, 1);
        DUE.asked(x, "the other one not", x.person(0, 1), 1, 0);
        x.step(1);
        DUE.asked(x, "down again", x.person(1, 1), 1, 0);
    }

    private static void personSeems() {
        FirstLanding x = Due.embassy("n3e945g000s370");
        DUE.asked(x, "nobody is up", x.person(0, 2), 1, 0);
        x.step(0);
        DUE.asked(x, "up alone: its own look is left out", x.person(0, 2), 1, 0);
        DUE.asked(x, "who is down seems with who is up", x.person(2, 2), 1, 3);
        x.step(2);
        DUE.asked(x, "two are up", x.person(0, 2), 1, 5);
        DUE.asked(x, "all 0", x.person(1, 2), 1, 0);
    }

    private static void personTreaties() {
        FirstLanding x = Due.embassy("n6g555555g555555g555555g555555g555555g555555");
        for (int a = 0; a < 6; a++) {
            x.step(a);
        }
        DUE.asked(x, "none", x.person(5, 3), 1, 0);
        for (int a = 0; a < 5; a++) {
            x.treat(5, a);
            DUE.asked(x, "one more of 5", x.person(5, 3), 1, a + 1);
            DUE.asked(x, "one of " + a, x.person(a, 3), 1, 1);
        }
        x.step(5);
        DUE.asked(x, "they stay, if one goes down", x.person(5, 3), 1, 5);
        x.undo(6);
        DUE.asked(x, "none, undone", x.person(5, 3), 1, 0);
    }

    private static void personUnmade() {
        FirstLanding x = Due.embassy("n3g000g111g001");
        DUE.asked(x, "oneself left out", x.person(0, 4), 1, 2);
        DUE.asked(x, "none", x.person(1, 4), 1, 0);
        DUE.asked(x, "own look is no matter", x.person(2, 4), 1, 2);
        x.meet(0, 2, 1);
        DUE.asked(x, "one less", x.person(0, 4), 1, 1);
        DUE.asked(x, "the other one's are as they were", x.person(2, 4), 1, 2);
    }

    private static void personRefused() {
        FirstLanding x = Due.embassy("n2g05g50");
        x.step(0);
        x.person(0, 1);
        for (int a : new int[] {MIN, -1, 2, 5, 6, MAX}) {
            DUE.refused(x, "person(" + a + ", 0)", () -> x.person(a, 0), BAD);
        }
        for (int what : new int[] {MIN, -1, 5, 6, MAX}) {
            DUE.refused(x, "person(0, " + what + ")", () -> x.person(0, what), BAD);
        }
        FirstLanding none = new FirstLanding();
        for (int what = 0; what <= 4; what++) {
            int w = what;
            DUE.refused(none, "person(0, " + what + ") without people", () -> none.person(0, w), BAD);
        }
    }

    private static void looksOfAll() {
        FirstLanding x = Due.embassy("n2g90g09");
        DUE.is("to oneself, the greatest", x.looks(0, 0), 9);
        DUE.is("to the other, none", x.looks(0, 1), 0);
        DUE.is("back, none", x.looks(1, 0), 0);
        DUE.is("the last to itself", x.looks(1, 1), 9);
    }

    private static void looksRefused() {
        FirstLanding x = Due.embassy("n3g111g111g111");
        for (int a : new int[] {MIN, -1, 3, 5, 6, MAX}) {
            DUE.refused(x, "looks(" + a + ", 0)", () -> x.looks(a, 0), BAD);
            DUE.refused(x, "looks(0, " + a + ")", () -> x.looks(0, a), BAD);
        }
        FirstLanding none = new FirstLanding();
        DUE.refused(none, "looks(0, 0) without people", () -> none.looks(0, 0), BAD);
    }

    private static void markOfKinds() {
        FirstLanding x = Due.embassy("n6g123456e123456s123456v123456c123456k123456");
        int[] is = {0, 1 << 1, 1 << 2, 1 << 3, 1 << 4 | 1 << 1, 1 << 5 | 1 << 2};
        for (int a = 0; a < 6; a++) {
            for (int kind = 1; kind <= 5; kind++) {
                int who = a;
                int what = kind;
                String call = "mark(" + a + ", " + kind + ")";
                if ((is[a] >> kind & 1) == 1) {
                    DUE.is(call + " is told", x.mark(a, kind) >= 0 ? 1 : 0, 1);
                } else {
                    DUE.finding(x, call, () -> x.mark(who, what), UNLIKE);
                }
            }
        }
    }

    private static void markEnvoy() {
        DUE.is("its own look is left out", Due.embassy("n3e912g000g000").mark(0, 1), 2);
        DUE.is("of two alike the least number", Due.embassy("n3g000g000e770").mark(2, 1), 0);
        DUE.is("all 0", Due.embassy("n3e000g000g000").mark(0, 1), 1);
        DUE.is("all 0, of the last", Due.embassy("n3g000g000e000").mark(2, 1), 0);
        DUE.is("a chief, too", Due.embassy("n3g000c192g000").mark(1, 1), 2);
        DUE.is("nine is not cut off", Due.embassy("n3c089g000g000").mark(0, 1), 2);
        DUE.is("of two people", Due.embassy("n2e90e90").mark(1, 1), 0);
        DUE.is("the looks of the next one are no matter", Due.embassy("n6e011111g999999g000000g000000g000000g000000").mark(0, 1), 1);
    }

    private static void markSpy() {
        DUE.is("its own look is left out", Due.embassy("n3s021g000g000").mark(0, 2), 2);
        DUE.is("of two alike the least number", Due.embassy("n3g000g000s770").mark(2, 2), 0);
        DUE.is("0 is the least", Due.embassy("n3s910g000g000").mark(0, 2), 2);
        DUE.is("all 0, of the first", Due.embassy("n3s000g000g000").mark(0, 2), 1);
        DUE.is("a child, too, and 0 is the least for it, too", Due.embassy("n3g000k100g000").mark(1, 2), 2);
        DUE.is("all 9", Due.embassy("n3g000k999g000").mark(1, 2), 0);
    }

    private static void markValet() {
        DUE.is("all others", Due.embassy("n6v000000g000000g000000g000000g000000g000000").mark(0, 3), 5);
        DUE.is("none", Due.embassy("n3v011g000g000").mark(0, 3), 0);
        DUE.is("oneself left out", Due.embassy("n3v010g000g000").mark(0, 3), 1);
        FirstLanding x = Due.embassy("n3v000g000g000");
        x.meet(0, 1, 1);
        DUE.is("one less by a meeting", x.mark(0, 3), 1);
        x.meet(2, 0, 1);
        DUE.is("those of others are no matter", x.mark(0, 3), 1);
    }

    private static void markChief() {
        DUE.is("one", Due.embassy("n3c000e000k000").mark(0, 4), 1);
        DUE.is("all six", Due.embassy("n6c000000c000000c000000c000000c000000c000000").mark(5, 4), 6);
        DUE.is("envoys are none", Due.embassy("n3e000c000e000").mark(1, 4), 1);
    }

    private static void markChild() {
        DUE.is("all others", Due.embassy("n6k999999g011111g011111g011111g011111g011111").mark(0, 5), 5);
        DUE.is("none", Due.embassy("n3k000g100g100").mark(0, 5), 0);
        DUE.is("the first one has made none", Due.embassy("n3g000g001k000").mark(2, 5), 1);
        DUE.is("its own looks are no matter", Due.embassy("n3k011g100g010").mark(0, 5), 1);
        FirstLanding x = Due.embassy("n3k000g000g000");
        x.meet(1, 0, 1);
        DUE.is("one less by a meeting", x.mark(0, 5), 1);
        x.meet(0, 2, 1);
        DUE.is("its own meetings are no matter", x.mark(0, 5), 1);
    }

    private static void markRefused() {
        FirstLanding x = Due.embassy("n3e000g000k000");
        for (int kind : new int[] {MIN, -1, 0, 6, 7, MAX}) {
            DUE.refused(x, "mark(0, " + kind + ")", () -> x.mark(0, kind), BAD);
        }
        DUE.refused(x, "mark(1, 0) of a guest", () -> x.mark(1, 0), BAD);
        for (int a : new int[] {MIN, -1, 3, 6, MAX}) {
            DUE.refused(x, "mark(" + a + ", 1)", () -> x.mark(a, 1), BAD);
            DUE.refused(x, "mark(" + a + ", 0)", () -> x.mark(a, 0), BAD);
        }
        DUE.finding(x, "an envoy is no chief", () -> x.mark(0, 4), UNLIKE);
        DUE.finding(x, "a guest is no valet", () -> x.mark(1, 3), UNLIKE);
        DUE.finding(x, "a child is no envoy", () -> x.mark(2, 1), UNLIKE);
        FirstLanding none = new FirstLanding();
        DUE.refused(none, "mark(0, 1) without people", () -> none.mark(0, 1), BAD);
    }
}

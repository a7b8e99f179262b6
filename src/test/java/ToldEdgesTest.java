import java.util.function.IntSupplier;

/** The Terms and promises 38 to 44, a sentence at a time: what is refused, what is told. */
public final class ToldEdgesTest {
    private static final int BAD = FirstLanding.BAD, FULL = FirstLanding.FULL, STATE = FirstLanding.STATE;
    private static final int FINDING = FirstLanding.FINDING, NONE = FirstLanding.NONE;
    private static final int NOTHING = 1, BEYOND = 2, UNLIKE = 3, NOUGHT = 4, SIZE = 5;
    private static final int MIN = Integer.MIN_VALUE, MAX = Integer.MAX_VALUE;
    private static final int[] WILD = {MIN, -1, 0, 1, 2, 3, 4, 6, 7, 9, 10, 13, 21, 40, 41, 61, 64, MAX};
    private static final Sentences SAYS = new Sentences();
    private static final Due DUE = SAYS.due;

    public static void main(String[] args) {
        terms();
        SAYS.that(38, "What the latest lay(), at(), mean(), person(), agree(), well(), add(), worst(), steps(), tells()",
            ToldEdgesTest::askedLatest);
        SAYS.that(38, "that was not refused (nor NONE) told", ToldEdgesTest::askedNotRefused);
        SAYS.that(38, "0 before.", ToldEdgesTest::askedBefore);
        SAYS.that(39, "The upper number that was told last; 0 before.", ToldEdgesTest::upperLast);
        SAYS.that(40, "Its lower number; 1 before.", ToldEdgesTest::lowerLast);
        SAYS.that(41, "0 PEOPLE, 1 who is UP (bits), 2 DEEDS, 3 TREATIES, 4 LOOKS that are 0 (of all to all others)",
            ToldEdgesTest::countsOfPeople);
        SAYS.that(41, "5 ENVOYS (CHIEFS, too), 6 SPIES (CHILDREN, too)", ToldEdgesTest::countsOfKinds);
        SAYS.that(41, "7 ROWS, 8 TEXTS that are there, 9 kept EMBASSIES", ToldEdgesTest::countsOfRows);
        SAYS.that(41, "BAD.", ToldEdgesTest::countRefused);
        SAYS.that(42, "The latest FINDING (0 before any).", ToldEdgesTest::latestFinding);
        SAYS.that(43, "How often a FINDING (1 .. 5) was answered.", ToldEdgesTest::findingsCounted);
        SAYS.that(43, "BAD.", ToldEdgesTest::findingsRefused);
        SAYS.that(44, "h = 17; then h = 31 h + v for each v: count() 0 to 9", ToldEdgesTest::digestOfNone);
        SAYS.that(44, "of each of PEOPLE person() 0 to 4, then its LOOKS to each", ToldEdgesTest::digestOfPeople);
        SAYS.that(44, "of each kept EMBASSY how many DEEDS (-1: missing); of each ROW its size (-1: missing) and places,"
            + " of each TEXT likewise", ToldEdgesTest::digestOfAll);
        SAYS.end("ToldEdgesTest", 38, 44);
    }

    private static void terms() {
        SAYS.that(0, "BAD = -1, FULL = -2, FINDING = -3, STATE = -4, SPENT = -6, NONE = -9", ToldEdgesTest::constants);
        SAYS.that(0, "Refused is, the first of these that fits, in this order: BAD -1 (a number that is none, or not as told),"
            + " FULL -2, STATE -4 (not now), SPENT -6 (more than told), FINDING -3 (finding() tells which),"
            + " unless a call says so otherwise.", ToldEdgesTest::order);
        SAYS.that(0, "What is refused changes nothing but finding(), findings().", ToldEdgesTest::refusedChangesNothing);
        SAYS.that(0, "1 NOTHING (a ROW, a TEXT, a kept EMBASSY that is missing)", ToldEdgesTest::nothing);
        SAYS.that(0, "2 BEYOND (a place of a ROW, a TEXT that there is not)", ToldEdgesTest::beyond);
        SAYS.that(0, "3 UNLIKE (one of PEOPLE of another KIND; a number that is none)", ToldEdgesTest::unlike);
        SAYS.that(0, "4 NOUGHT (shared among none)", ToldEdgesTest::nought);
        SAYS.that(0, "5 SIZE (fewer than none; too many, not as many as due)", ToldEdgesTest::size);
        SAYS.that(0, "Sets (of PEOPLE, of KINDS, of LOOKS) are told by bits.", ToldEdgesTest::bits);
        SAYS.that(0, "or missing (at first)", ToldEdgesTest::missingAtFirst);
        SAYS.that(0, "An EMBASSY (without PEOPLE at first) is a TEXT", ToldEdgesTest::withoutPeople);
        SAYS.that(0, "An object is used for at most 512 calls after it has been made", ToldEdgesTest::manyCalls);
    }

    private static void constants() {
        DUE.is("BAD", FirstLanding.BAD, -1);
        DUE.is("FULL", FirstLanding.FULL, -2);
        DUE.is("FINDING", FirstLanding.FINDING, -3);
        DUE.is("STATE", FirstLanding.STATE, -4);
        DUE.is("SPENT", FirstLanding.SPENT, -6);
        DUE.is("NONE", FirstLanding.NONE, -9);
    }

    private static void order() {
        FirstLanding x = new FirstLanding();
        DUE.refused(x, "BAD ahead of STATE", () -> x.steps(6), BAD);
        DUE.refused(x, "STATE ahead of FINDING", () -> x.steps(0), STATE);
        DUE.refused(x, "BAD ahead of FINDING", () -> x.kinds(0, 0), BAD);
        DUE.finding(x, "a FINDING ahead of STATE, if the call says so", () -> x.embassy(0), NOTHING);
        FirstLanding y = Due.embassy("n2g05g50");
        for (int i = 0; i < 40; i++) {
            y.step(0);
        }
        DUE.refused(y, "BAD ahead of FULL", () -> y.step(2), BAD);
        DUE.refused(y, "STATE ahead of FULL, if the call says so", () -> y.treat(0, 1), STATE);
        DUE.refused(y, "FULL", () -> y.step(1), FULL);
        DUE.refused(y, "FULL of lots", () -> y.lots(1, 1), FULL);
    }

    /** Rows, texts, people with deeds of every sort, two kept, something told by all that tells. */
    private static FirstLanding rich() {
        FirstLanding x = Due.embassy("n4g0550e5050s5500v0000");
        Due.row(x, 0, 0, 1, 1, 2);
        Due.row(x, 1, 6, 5, 1, 0);
        Due.row(x, 2, -7, MAX, MIN);
        x.row(3, 0);
        Due.write(x, 1, "n2g00k5?");
        x.step(0);
        x.step(1);
        x.treat(0, 1);
        x.keep(0);
        x.meet(3, 0, 4);
        x.step(2);
        x.keep(2);
        x.step(0);
        x.mid(1, 5);
        x.lay(2, 0, -8);
        return x;
    }

    /** All that can be found out of an object, what is kept and what can be undone, too. */
    private static String whole(FirstLanding x) {
        StringBuilder all = new StringBuilder();
        all.append(Due.state(x)).append(' ');
        for (int what = 0; what <= 9; what++) {
            all.append(x.count(what)).append(' ');
        }
        for (int n = x.count(2) - 1; n >= 0; n--) {
            all.append(x.undo(n)).append(':').append(x.digest()).append(' ');
        }
        for (int k = 0; k <= 2; k++) {
            all.append(x.on(k)).append(':').append(x.digest()).append(' ');
            for (int n = x.count(2) - 1; n >= 0; n--) {
                all.append(x.undo(n)).append(':').append(x.digest()).append(' ');
            }
        }
        return all.toString();
    }

    private static void refusedChangesNothing() {
        String untouched = whole(rich());
        int refused = 0;
        for (int call = 0; call < 39; call++) {
            int[] some = parameters(call) < 3 ? WILD : new int[] {MIN, -1, 0, 1, 2, 3, 6, 64, MAX};
            for (int a : some) {
                for (int b : parameters(call) > 1 ? some : new int[] {0}) {
                    for (int c : parameters(call) > 2 ? some : new int[] {0}) {
                        refused += isRefused(call, a, b, c, untouched) ? 1 : 0;
                    }
                }
            }
        }
        DUE.is("very many calls were refused", refused > 2000 ? 1 : 0, 1);
    }

    private static boolean isRefused(int call, int a, int b, int c, String untouched) {
        FirstLanding x = rich();
        int before = x.finding();
        int times = timesOfAll(x);
        int answer = answer(x, call, a, b, c);
        String what = "call " + call + " with " + a + ", " + b + ", " + c;
        if (answer >= 0) {
            return false;
        }
        boolean known = answer == BAD || answer == FULL || answer == STATE || answer == FINDING || answer == NONE;
        DUE.is(what + " answers one of the constants, but for SPENT", known ? 1 : 0, 1);
        DUE.is(what + ": findings", timesOfAll(x), times + (answer == FINDING ? 1 : 0));
        if (answer != FINDING) {
            DUE.is(what + ": the latest finding", x.finding(), before);
        }
        DUE.is(what + ": all is as it was", whole(x).equals(untouched) ? 1 : 0, 1);
        return true;
    }

    private static int timesOfAll(FirstLanding x) {
        int many = 0;
        for (int f = 1; f <= 5; f++) {
            many += x.findings(f);
        }
        return many;
    }

    private static int parameters(int call) {
        return call < 17 ? 1 : call < 33 ? 2 : 3;
    }

    private static int answer(FirstLanding x, int call, int a, int b, int c) {
        switch (call) {
            case 0: return x.tear(a);
            case 1: return x.mean(a);
            case 2: return x.fault(a);
            case 3: return x.embassy(a);
            case 4: return x.step(a);
            case 5: return x.undo(a);
            case 6: return x.keep(a);
            case 7: return x.on(a);
            case 8: return x.there(a);
            case 9: return x.agree(a);
            case 10: return x.add(a);
            case 11: return x.worst(a);
            case 12: return x.steps(a);
            case 13: return x.tells(a);
            case 14: return x.missions(a);
            case 15: return x.count(a);
            case 16: return x.findings(a);
            case 17: return x.row(a, b);
            case 18: return x.at(a, b);
            case 19: return x.text(a, b);
            case 20: return x.person(a, b);
            case 21: return x.looks(a, b);
            case 22: return x.mark(a, b);
            case 23: return x.treat(a, b);
            case 24: return x.seems(a, b);
            case 25: return x.kinds(a, b);
            case 26: return x.knows(a, b);
            case 27: return x.hears(a, b);
            case 28: return x.mid(a, b);
            case 29: return x.odds(a, b);
            case 30: return x.lots(a, b);
            case 31: return x.copy(a, b, b, a, a);
            case 32: return x.copy(a, 0, 1, b, 1);
            case 33: return x.lay(a, b, c);
            case 34: return x.put(a, b, c);
            case 35: return x.meet(a, b, c);
            case 36: return x.meetings(a, b, c);
            case 37: return x.fits(a, b, c);
            default: return x.copy(a, b, 2, 0, c);
        }
    }

    private static void nothing() {
        FirstLanding x = Due.embassy("n2g05g50");
        DUE.finding(x, "a row that is missing", () -> x.at(5, 0), NOTHING);
        DUE.finding(x, "a text that is missing", () -> x.put(3, 0, 0), NOTHING);
        DUE.finding(x, "a kept embassy that is missing", () -> x.on(2), NOTHING);
        DUE.finding(x, "a row of pairs that is missing", () -> x.steps(5), NOTHING);
        DUE.finding(x, "a row of notes that is missing", () -> x.kinds(0, 5), NOTHING);
    }

    private static void beyond() {
        FirstLanding x = new FirstLanding();
        x.row(0, 1);
        x.text(0, 1);
        DUE.finding(x, "a place of a row", () -> x.lay(0, 1, 5), BEYOND);
        DUE.finding(x, "a place of a text", () -> x.put(0, 1, 5), BEYOND);
        DUE.finding(x, "a place ahead of a row", () -> x.at(0, -1), BEYOND);
        DUE.finding(x, "a place ahead of a text", () -> x.put(0, -1, 5), BEYOND);
        DUE.finding(x, "places to copy", () -> x.copy(0, 0, 0, 0, 2), BEYOND);
    }

    private static void unlike() {
        FirstLanding x = Due.embassy("n2g05e50");
        DUE.finding(x, "one of another kind", () -> x.mark(0, 1), UNLIKE);
        Due.row(x, 0, 0, 2);
        DUE.finding(x, "one who is none", () -> x.steps(0), UNLIKE);
        Due.row(x, 0, 4, 0);
        DUE.finding(x, "a set that is none", () -> x.kinds(0, 0), UNLIKE);
    }

    private static void nought() {
        FirstLanding x = new FirstLanding();
        x.row(0, 0);
        DUE.finding(x, "a mean of none", () -> x.mean(0), NOUGHT);
    }

    private static void size() {
        FirstLanding x = Due.embassy("n2g05e50");
        DUE.finding(x, "a row of fewer than none", () -> x.row(0, -1), SIZE);
        DUE.finding(x, "a text of fewer than none", () -> x.text(0, -1), SIZE);
        x.row(0, 10);
        DUE.finding(x, "too many pairs", () -> x.steps(0), SIZE);
        x.row(0, 14);
        DUE.finding(x, "too many notes", () -> x.kinds(0, 0), SIZE);
        x.row(0, 3);
        DUE.finding(x, "not as many as due", () -> x.fits(0, 1, 0), SIZE);
        DUE.finding(x, "a copy of fewer than none", () -> x.copy(0, 0, 0, 0, -1), SIZE);
    }

    private static void bits() {
        FirstLanding x = Due.embassy("n6g999999g999999g999999g999999g999999g999999");
        x.step(5);
        DUE.is("the last one is bit 5", x.count(1), 32);
        DUE.is("a set without others", x.knows(5, 0), 32);
        DUE.is("all six", x.there(63), 63);
        Due.row(x, 0, 1, 9);
        DUE.is("LOOKS of 9 are bit 9", x.fits(1, 0, 0), 512);
        Due.row(x, 0, 1, 0);
        DUE.is("LOOKS of 0 are bit 0", x.fits(1, 0, 0), 1);
        Due.row(x, 0);
        DUE.is("all of LOOKS", x.fits(1, 0, 0), 1023);
        DUE.is("all of KINDS", x.kinds(1, 0), 63);
    }

    private static void missingAtFirst() {
        for (int r = 0; r <= 5; r++) {
            FirstLanding x = new FirstLanding();
            int row = r;
            DUE.finding(x, "row " + r, () -> x.tear(row), NOTHING);
            x.row((r + 1) % 6, 3);
            DUE.finding(x, "row " + r + " beside another one", () -> x.at(row, 0), NOTHING);
        }
        for (int t = 0; t <= 3; t++) {
            FirstLanding x = new FirstLanding();
            int text = t;
            DUE.finding(x, "text " + t, () -> x.put(text, 0, 1), NOTHING);
            x.text((t + 1) % 4, 3);
            DUE.finding(x, "text " + t + " beside another one", () -> x.fault(text), NOTHING);
        }
    }

    private static void withoutPeople() {
        FirstLanding x = new FirstLanding();
        DUE.is("no people", x.count(0), 0);
        DUE.is("nobody up", x.count(1), 0);
        IntSupplier[] bad = {() -> x.person(0, 0), () -> x.looks(0, 0), () -> x.mark(0, 1), () -> x.step(0),
            () -> x.meet(0, 1, 1), () -> x.treat(0, 1), () -> x.undo(0), () -> x.seems(0, 0), () -> x.there(1),
            () -> x.agree(1), () -> x.add(1), () -> x.worst(1), () -> x.meetings(0, 0, 0), () -> x.fits(0, 1, 0),
            () -> x.kinds(0, 0), () -> x.tells(0), () -> x.knows(0, 0), () -> x.hears(0, 0), () -> x.mid(0, 0),
            () -> x.odds(0, 0)};
        for (int i = 0; i < bad.length; i++) {
            DUE.refused(x, "one who is none, " + i, bad[i], BAD);
        }
        IntSupplier[] notNow = {() -> x.keep(0), x::well, () -> x.steps(0), () -> x.missions(0), () -> x.lots(1, 1)};
        for (int i = 0; i < notNow.length; i++) {
            DUE.refused(x, "not without people, " + i, notNow[i], STATE);
        }
    }

    private static void manyCalls() {
        FirstLanding x = new FirstLanding();
        x.row(0, 1);
        for (int i = 2; i <= 510; i++) {
            x.lay(0, 0, i);
        }
        DUE.is("call 511", x.at(0, 0), 1);
        DUE.is("call 512", x.asked(), 510);
    }

    private static FirstLanding three() {
        FirstLanding x = Due.embassy("n3g055g505g500");
        x.step(0);
        x.step(1);
        Due.row(x, 0, 41, 43);
        Due.row(x, 1, 0, 2);
        Due.row(x, 2);
        return x;
    }

    private static void askedLatest() {
        FirstLanding x = three();
        DUE.asked(x, "lay()", x.lay(0, 0, 45), 1, 41);
        DUE.asked(x, "at()", x.at(0, 0), 1, 45);
        DUE.asked(x, "mean()", x.mean(0), 1, 44);
        DUE.asked(x, "person()", x.person(0, 2), 1, 5);
        DUE.asked(x, "agree(), a pair", x.agree(3), 1, 1);
        DUE.asked(x, "agree(), no pair: NONE is told", x.agree(1), 0, NONE);
        DUE.asked(x, "well()", x.well(), 2, 3);
        DUE.asked(x, "add()", x.add(3), 2, 1);
        DUE.asked(x, "worst(): 5, 5, 2", x.worst(7), 2, 3);
        DUE.asked(x, "steps(), one", x.steps(1), 2, 1);
        Due.row(x, 1, 0, 1);
        DUE.asked(x, "steps(), none is needed: NONE is told", x.steps(1), 0, NONE);
        DUE.asked(x, "tells()", x.tells(0), 2, 2);
    }

    private static void askedNotRefused() {
        FirstLanding x = three();
        x.at(0, 1);
        IntSupplier[] refused = {() -> x.lay(0, 2, 1), () -> x.lay(6, 0, 1), () -> x.at(3, 0), () -> x.at(-1, 0),
            () -> x.mean(2), () -> x.mean(3), () -> x.mean(6), () -> x.person(3, 0), () -> x.person(0, 5),
            () -> x.agree(8), () -> x.add(8), () -> x.worst(8), () -> x.steps(6), () -> x.steps(2), () -> x.tells(3)};
        for (int i = 0; i < refused.length; i++) {
            DUE.is("refused, " + i, refused[i].getAsInt() < 0 ? 1 : 0, 1);
            DUE.is("asked() is as it was, " + i, x.asked(), 43);
        }
        IntSupplier[] none = {() -> x.add(7), () -> x.worst(4)};
        for (int i = 0; i < none.length; i++) {
            DUE.asked(x, "NONE, " + i, none[i].getAsInt(), NONE, 43);
        }
        FirstLanding y = Due.embassy("n2v01v90");
        Due.row(y, 0, 0, 1);
        y.at(0, 1);
        DUE.asked(y, "NONE of steps()", y.steps(0), NONE, 1);
        IntSupplier[] others = {() -> x.row(5, 1), () -> x.tear(5), () -> x.copy(0, 0, 0, 0, 1), () -> x.text(3, 1),
            () -> x.put(3, 0, 1), () -> x.fault(3), () -> x.looks(0, 1), () -> x.step(2), () -> x.meet(2, 1, 1),
            () -> x.undo(2), () -> x.treat(0, 1), () -> x.keep(1), () -> x.on(1), () -> x.seems(0, 7), () -> x.there(7),
            () -> x.meetings(0, 7, 5), () -> x.fits(0, 1, 2), () -> x.kinds(0, 2), () -> x.knows(0, 1), () -> x.hears(0, 1),
            () -> x.missions(2), () -> x.mid(0, 6), () -> x.odds(0, 6), () -> x.lots(1, 1), () -> x.count(0), x::finding,
            () -> x.findings(1), () -> (int) (x.digest() & 1), () -> (int) x.upper(), () -> (int) x.lower(), () -> x.embassy(0)};
        for (int i = 0; i < others.length; i++) {
            DUE.is("not refused, " + i, others[i].getAsInt() >= 0 ? 1 : 0, 1);
            DUE.is("they tell nothing by asked(), " + i, x.asked(), 43);
        }
    }

    private static void askedBefore() {
        FirstLanding x = new FirstLanding();
        DUE.is("at first", x.asked(), 0);
        x.at(0, 0);
        x.add(0);
        x.row(0, 3);
        DUE.is("before any that told", x.asked(), 0);
    }

    private static void upperLast() {
        FirstLanding x = Due.embassy("n2g05g50");
        DUE.is("before", x.upper(), 0);
        x.mid(0, 6);
        DUE.is("before, as one is not up", x.upper(), 0);
        x.step(0);
        x.step(1);
        x.mid(0, 6);
        DUE.is("5 by 2", x.upper(), 5);
        x.odds(0, 4);
        DUE.is("2 by 3", x.upper(), 2);
        x.odds(0, 13);
        x.mid(2, 0);
        x.row(0, 1);
        x.mean(0);
        DUE.is("told last yet", x.upper(), 2);
        x.embassy(0);
        DUE.is("an embassy anew changes nothing", x.upper(), 2);
    }

    private static void lowerLast() {
        FirstLanding x = Due.embassy("n2g05g50");
        DUE.is("before", x.lower(), 1);
        x.odds(0, 6);
        DUE.is("before, as one is not up", x.lower(), 1);
        x.step(0);
        x.step(1);
        x.mid(0, 6);
        DUE.is("5 by 2", x.lower(), 2);
        x.odds(0, 4);
        DUE.is("2 by 3", x.lower(), 3);
        x.odds(0, -1);
        DUE.is("told last yet", x.lower(), 3);
        x.mid(0, 12);
        DUE.is("0 by 1", x.lower(), 1);
    }

    private static void countsOfPeople() {
        FirstLanding x = Due.embassy("n6g000000g000000g000000g000000g000000g555550");
        DUE.is("people", x.count(0), 6);
        DUE.is("looks that are 0, own ones left out", x.count(4), 25);
        for (int a = 0; a < 6; a++) {
            x.step(a);
        }
        DUE.is("all are up", x.count(1), 63);
        DUE.is("six deeds", x.count(2), 6);
        x.step(0);
        DUE.is("0 is not up", x.count(1), 62);
        x.meet(0, 5, 5);
        DUE.is("one look less", x.count(4), 24);
        DUE.is("no treaties", x.count(3), 0);
        for (int i = 8; i < 40; i++) {
            x.step(1);
        }
        DUE.is("forty deeds", x.count(2), 40);
        FirstLanding y = Due.embassy("n2g15g51");
        DUE.is("no look is 0", y.count(4), 0);
        y.step(0);
        y.step(1);
        y.treat(0, 1);
        DUE.is("a treaty", y.count(3), 1);
    }

    private static void countsOfKinds() {
        FirstLanding x = Due.embassy("n6e000000c000000c000000s000000k000000v000000");
        DUE.is("an envoy and two chiefs", x.count(5), 3);
        DUE.is("a spy and a child", x.count(6), 2);
        FirstLanding y = Due.embassy("n2g00v00");
        DUE.is("none", y.count(5), 0);
        DUE.is("none of these, either", y.count(6), 0);
        FirstLanding z = Due.embassy("n6c000000c000000c000000e000000e000000e000000");
        DUE.is("all six", z.count(5), 6);
        DUE.is("and none", z.count(6), 0);
    }

    private static void countsOfRows() {
        FirstLanding x = Due.embassy("n2g00g00");
        for (int r = 0; r <= 5; r++) {
            x.row(r, r == 3 ? 0 : 2);
            DUE.is("rows", x.count(7), r + 1);
        }
        x.row(0, 5);
        DUE.is("made anew: no more", x.count(7), 6);
        x.tear(3);
        DUE.is("torn: one less", x.count(7), 5);
        for (int t = 1; t <= 3; t++) {
            x.text(t, t - 1);
            DUE.is("texts", x.count(8), t + 1);
        }
        for (int k = 0; k <= 2; k++) {
            x.keep(k);
            x.keep(k);
            DUE.is("kept", x.count(9), k + 1);
        }
        x.on(0);
        DUE.is("kept yet", x.count(9), 3);
        x.embassy(0);
        DUE.is("gone", x.count(9), 0);
    }

    private static void countRefused() {
        FirstLanding x = rich();
        for (int what : new int[] {MIN, -1, 10, 11, MAX}) {
            DUE.refused(x, "count(" + what + ")", () -> x.count(what), BAD);
        }
    }

    private static void latestFinding() {
        FirstLanding x = Due.embassy("n2g00g00");
        DUE.is("before any", x.finding(), 0);
        x.step(9);
        x.keep(9);
        DUE.is("others are none", x.finding(), 0);
        x.mark(0, 1);
        DUE.is("UNLIKE", x.finding(), UNLIKE);
        x.row(0, -1);
        DUE.is("SIZE", x.finding(), SIZE);
        x.on(0);
        DUE.is("NOTHING", x.finding(), NOTHING);
        x.row(0, 0);
        x.mean(0);
        DUE.is("NOUGHT", x.finding(), NOUGHT);
        x.at(0, 0);
        DUE.is("BEYOND", x.finding(), BEYOND);
        x.embassy(0);
        x.at(9, 9);
        DUE.is("it stays", x.finding(), BEYOND);
    }

    private static void findingsCounted() {
        FirstLanding x = Due.embassy("n2g00g00");
        for (int f = 1; f <= 5; f++) {
            DUE.is("none at first", x.findings(f), 0);
        }
        x.row(0, 0);
        IntSupplier[] calls = {() -> x.on(0), () -> x.at(0, 0), () -> x.mark(0, 1), () -> x.mean(0), () -> x.row(0, -1)};
        for (int f = 1; f <= 5; f++) {
            for (int times = 0; times < 6 - f; times++) {
                calls[f - 1].getAsInt();
            }
        }
        x.step(9);
        x.treat(0, 1);
        x.add(3);
        for (int f = 1; f <= 5; f++) {
            DUE.is("findings(" + f + ")", x.findings(f), 6 - f);
        }
        x.embassy(0);
        DUE.is("they stay", x.findings(1), 5);
    }

    private static void findingsRefused() {
        FirstLanding x = rich();
        for (int f : new int[] {MIN, -1, 0, 6, 7, MAX}) {
            DUE.refused(x, "findings(" + f + ")", () -> x.findings(f), BAD);
        }
    }

    private static long digest(long... values) {
        long h = 17;
        for (long v : values) {
            h = 31 * h + v;
        }
        return h;
    }

    private static void digestOfNone() {
        DUE.is("a new one", new FirstLanding().digest(), digest(0, 0, 0, 0, 0, 0, 0, 0, 0, 0,
            -1, -1, -1, -1, -1, -1, -1, -1, -1, -1, -1, -1, -1));
        FirstLanding x = new FirstLanding();
        x.row(5, 40);
        x.lay(5, 39, MIN);
        long[] values = new long[63];
        java.util.Arrays.fill(values, 0, 10, 0);
        values[7] = 1;
        java.util.Arrays.fill(values, 10, 18, -1);
        values[18] = 40;
        values[58] = MIN;
        java.util.Arrays.fill(values, 59, 63, -1);
        DUE.is("the sum wraps around", x.digest(), digest(values));
        x.at(5, 39);
        x.finding();
        DUE.is("what is told is not in it", x.digest(), digest(values));
    }

    private static void digestOfPeople() {
        FirstLanding x = Due.embassy("n2c94k05");
        x.step(1);
        DUE.is("two people", x.digest(), digest(2, 2, 1, 0, 1, 1, 1, 0, 1, 0,
            4, 0, 5, 0, 0, 9, 4,
            5, 1, 0, 0, 1, 0, 5,
            -1, -1, -1, -1, -1, -1, -1, -1, -1,
            8, 110, 50, 99, 57, 52, 107, 48, 53, -1, -1, -1));
    }

    private static void digestOfAll() {
        FirstLanding x = new FirstLanding();
        Due.write(x, 2, "n2g05g50");
        x.embassy(2);
        x.keep(0);
        x.step(0);
        x.step(1);
        x.treat(0, 1);
        x.keep(2);
        x.undo(1);
        Due.row(x, 0, MIN, MAX, -1);
        x.row(4, 0);
        x.text(0, 0);
        x.text(2, 2);
        x.put(2, 0, -128);
        x.put(2, 1, 127);
        DUE.is("all of it", x.digest(), digest(2, 1, 1, 0, 0, 0, 0, 2, 2, 2,
            0, 1, 0, 0, 0, 0, 5,
            0, 0, 5, 0, 0, 5, 0,
            0, -1, 3,
            3, MIN, MAX, -1, -1, -1, -1, 0, -1,
            0, -1, 2, -128, 127, -1));
        x.tear(0);
        DUE.is("torn: -1", x.digest(), digest(2, 1, 1, 0, 0, 0, 0, 1, 2, 2,
            0, 1, 0, 0, 0, 0, 5,
            0, 0, 5, 0, 0, 5, 0,
            0, -1, 3,
            -1, -1, -1, -1, 0, -1,
            0, -1, 2, -128, 127, -1));
    }
}

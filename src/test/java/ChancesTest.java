/** Promises 34 to 37: missions by turns, chances, means, lots. */
public final class ChancesTest {
    private static final Due DUE = new Due();

    public static void main(String[] args) {
        missions();
        chances();
        lots();
        lotsByHand();
        DUE.end("ChancesTest");
    }

    private static void missions() {
        // 0 and 1 agree; 2 and 3 agree with nobody.
        FirstLanding x = Due.embassy("n4v0555v5055v0000v0000");
        DUE.is("nobody is sent", x.missions(0), 0);
        DUE.is("the other sends 2", x.missions(1), 0);
        DUE.is("all four are up", x.missions(2), 1);
        x.step(2);
        DUE.is("with 2 up the other sends 3", x.missions(1), 0);
        DUE.is("with 2 up all are sent, then nobody", x.missions(2), 1);
        x.step(2);
        x.step(0);
        x.step(1);
        DUE.is("two up agree", x.missions(0), 1);
        DUE.is("as many as now", x.missions(2), 1);
        x.step(2);
        x.step(3);
        DUE.is("all are up", x.missions(2), 1);
        DUE.is("nobody was sent truly", x.count(2), 6);
        DUE.refused(x, "missions(3)", () -> x.missions(3), FirstLanding.BAD);
        DUE.refused(x, "missions(-1)", () -> x.missions(-1), FirstLanding.BAD);
        FirstLanding none = new FirstLanding();
        DUE.refused(none, "missions(0) without people", () -> none.missions(0), FirstLanding.STATE);
        DUE.refused(none, "missions(3) without people", () -> none.missions(3), FirstLanding.BAD);
        // 0 and 1 agree, 2 and 3 agree: the other one can always part them, were it first it could not.
        FirstLanding two = Due.embassy("n4v0500v5000v0005v0050");
        DUE.is("the first one wants many, the other few", two.missions(1), 0);
        FirstLanding y = Due.embassy("n3g055g505g550");
        DUE.is("one each: a pair", y.missions(1), 1);
        DUE.is("two each: all three", y.missions(2), 3);
    }

    private static void chances() {
        FirstLanding x = Due.embassy("n3e036s000g550");
        DUE.refused(x, "mid, not up", () -> x.mid(0, 3), FirstLanding.STATE);
        DUE.refused(x, "odds, not up", () -> x.odds(0, 3), FirstLanding.STATE);
        DUE.refused(x, "mid(3, 3)", () -> x.mid(3, 3), FirstLanding.BAD);
        DUE.refused(x, "mid(-1, 3)", () -> x.mid(-1, 3), FirstLanding.BAD);
        DUE.refused(x, "mid(0, 13)", () -> x.mid(0, 13), FirstLanding.BAD);
        DUE.refused(x, "mid(0, -1)", () -> x.mid(0, -1), FirstLanding.BAD);
        DUE.refused(x, "odds(3, 3)", () -> x.odds(3, 3), FirstLanding.BAD);
        DUE.refused(x, "odds(-1, 3)", () -> x.odds(-1, 3), FirstLanding.BAD);
        DUE.refused(x, "odds(0, 13)", () -> x.odds(0, 13), FirstLanding.BAD);
        DUE.refused(x, "odds(0, -1)", () -> x.odds(0, -1), FirstLanding.BAD);
        x.step(0);
        DUE.ratio(x, "alone: mid", x.mid(0, 5), 0, 1);
        DUE.ratio(x, "alone: odds", x.odds(0, 5), 0, 1);
        x.step(1);
        x.step(2);
        DUE.ratio(x, "nobody has gone: mid", x.mid(0, 0), 6, 1);
        DUE.ratio(x, "nobody has gone: odds", x.odds(0, 0), 1, 1);
        DUE.ratio(x, "all have gone: mid", x.mid(0, 12), 0, 1);
        DUE.ratio(x, "all have gone: odds", x.odds(0, 12), 0, 1);
        // By a quarter: 6 by 3/4, 3 by 1/4 of 3/4.
        DUE.ratio(x, "a quarter: mid", x.mid(0, 3), 81, 16);
        DUE.ratio(x, "a quarter: odds", x.odds(0, 3), 15, 16);
        DUE.ratio(x, "a spy of 0 is never there: mid", x.mid(1, 6), 0, 1);
        DUE.ratio(x, "a spy of 0 is never there: odds", x.odds(1, 6), 0, 1);
        // By 1/12: 5 with either or both, 143 of 144.
        DUE.ratio(x, "a twelfth: mid", x.mid(2, 1), 715, 144);
        DUE.ratio(x, "a twelfth: odds", x.odds(2, 1), 143, 144);
        FirstLanding nine = Due.embassy("n2c09v90");
        nine.step(0);
        nine.step(1);
        DUE.ratio(nine, "nine: mid", nine.mid(0, 4), 6, 1);
        DUE.ratio(nine, "nine: odds", nine.odds(1, 4), 2, 3);
        DUE.refused(x, "mid(0, 13) keeps what was told", () -> x.mid(0, 13), FirstLanding.BAD);
        DUE.is("upper() yet", x.upper(), 143);
        DUE.is("lower() yet", x.lower(), 144);
    }

    private static void lots() {
        FirstLanding x = new FirstLanding();
        DUE.refused(x, "lots(0, 1) without people", () -> x.lots(0, 1), FirstLanding.BAD);
        DUE.refused(x, "lots(1, 1) without people", () -> x.lots(1, 1), FirstLanding.STATE);
        Due.write(x, 0, "n3g055g505g550");
        x.embassy(0);
        DUE.refused(x, "lots(0, 1)", () -> x.lots(0, 1), FirstLanding.BAD);
        DUE.refused(x, "lots(21, 1)", () -> x.lots(21, 1), FirstLanding.BAD);
        DUE.refused(x, "lots(1, 0)", () -> x.lots(1, 0), FirstLanding.BAD);
        DUE.refused(x, "lots(1, -1)", () -> x.lots(1, -1), FirstLanding.BAD);
        DUE.refused(x, "lots(1, 2147483647)", () -> x.lots(1, 2147483647), FirstLanding.BAD);
        x.lots(1, 2147483646);
        DUE.is("the greatest seed", x.count(2), 1);
        x.lots(20, 1);
        DUE.is("twenty deeds more", x.count(2), 21);
        DUE.refused(x, "lots(20, 1): 41", () -> x.lots(20, 1), FirstLanding.FULL);
        DUE.refused(x, "lots(21, 1), bad ahead of full", () -> x.lots(21, 1), FirstLanding.BAD);
        x.lots(19, 7);
        DUE.is("forty deeds", x.count(2), 40);
        DUE.refused(x, "lots(1, 1): 41", () -> x.lots(1, 1), FirstLanding.FULL);
        DUE.is("they are deeds that can be undone", x.undo(0), 40);
        DUE.is("nobody up", x.count(1), 0);
        DUE.is("no treaties", x.count(3), 0);
    }

    private static void lotsByHand() {
        // 48271: by 8 is 6033, modulo 4 is 1; modulo 3 is 1.
        // 182605794: by 8 is 22825724, modulo 4 is 0; modulo 3 is 0, by 64 modulo 3 is 2: not both up.
        // 1291394886: by 8 is 161424360, modulo 4 is 0; modulo 3 is 0, by 64 modulo 3 is 0: the same.
        FirstLanding x = Due.embassy("n3g055g505g550");
        DUE.is("lots(1, 1)", x.lots(1, 1), 0);
        DUE.is("1 is up", x.count(1), 2);
        x.undo(0);
        DUE.is("lots(2, 1)", x.lots(2, 1), 0);
        DUE.is("0 and 1 are up", x.count(1), 3);
        x.undo(0);
        DUE.is("lots(3, 1)", x.lots(3, 1), 0);
        DUE.is("0 has gone down", x.count(1), 2);
        x.step(0);
        x.step(2);
        // The number behind the seed 48271 is 182605794: a treaty of 0 and 2 now.
        DUE.is("lots(1, 48271)", x.lots(1, 48271), 1);
        DUE.is("all are up yet", x.count(1), 7);
        DUE.asked(x, "a treaty of 2", x.person(2, 3), 1, 1);
        DUE.asked(x, "none of 1", x.person(1, 3), 1, 0);
        DUE.is("they have one: 0 goes down", x.lots(1, 48271), 1);
        DUE.is("0 is down", x.count(1), 6);
    }
}

/** Promises 15 to 20: steps, meetings, treaties, undone, kept, gone on from. */
public final class DeedsTest {
    private static final int NOTHING = 1;
    private static final Due DUE = new Due();

    public static void main(String[] args) {
        steps();
        meetings();
        treaties();
        full();
        undone();
        undoneWrongly();
        kept();
        DUE.end("DeedsTest");
    }

    private static void steps() {
        FirstLanding x = Due.embassy("n3g111g111g111");
        DUE.is("2 goes up", x.step(2), 1);
        DUE.is("0 goes up", x.step(0), 2);
        DUE.is("who is up", x.count(1), 5);
        DUE.is("2 goes down", x.step(2), 1);
        DUE.is("who is up then", x.count(1), 1);
        DUE.is("three deeds", x.count(2), 3);
        DUE.refused(x, "step(3)", () -> x.step(3), FirstLanding.BAD);
        DUE.refused(x, "step(-1)", () -> x.step(-1), FirstLanding.BAD);
        FirstLanding none = new FirstLanding();
        DUE.refused(none, "step(0) without people", () -> none.step(0), FirstLanding.BAD);
    }

    private static void meetings() {
        FirstLanding x = Due.embassy("n3g000g100g010");
        DUE.is("four are 0", x.count(4), 4);
        DUE.is("meet(0, 2, 9)", x.meet(0, 2, 9), 3);
        DUE.is("looks(0, 2)", x.looks(0, 2), 9);
        DUE.is("looks(2, 0)", x.looks(2, 0), 0);
        DUE.is("meet(2, 0, 1)", x.meet(2, 0, 1), 2);
        DUE.refused(x, "met already", () -> x.meet(0, 2, 9), FirstLanding.STATE);
        DUE.refused(x, "seen in the text", () -> x.meet(1, 0, 9), FirstLanding.STATE);
        DUE.refused(x, "meet(0, 0, 1)", () -> x.meet(0, 0, 1), FirstLanding.BAD);
        DUE.refused(x, "meet(0, 1, 0)", () -> x.meet(0, 1, 0), FirstLanding.BAD);
        DUE.refused(x, "meet(0, 1, 10)", () -> x.meet(0, 1, 10), FirstLanding.BAD);
        DUE.refused(x, "meet(0, 2, 10)", () -> x.meet(0, 2, 10), FirstLanding.BAD);
        DUE.refused(x, "meet(3, 1, 1)", () -> x.meet(3, 1, 1), FirstLanding.BAD);
        DUE.refused(x, "meet(1, 3, 1)", () -> x.meet(1, 3, 1), FirstLanding.BAD);
        DUE.refused(x, "meet(-1, 1, 1)", () -> x.meet(-1, 1, 1), FirstLanding.BAD);
        DUE.is("two deeds", x.count(2), 2);
    }

    private static void treaties() {
        FirstLanding x = Due.embassy("n3v056v405v980");
        DUE.refused(x, "nobody up", () -> x.treat(0, 1), FirstLanding.STATE);
        x.step(0);
        DUE.refused(x, "only one up", () -> x.treat(0, 1), FirstLanding.STATE);
        x.step(1);
        DUE.is("treat(1, 0): 4 and 5", x.treat(1, 0), 1);
        DUE.refused(x, "treat(0, 1) again", () -> x.treat(0, 1), FirstLanding.STATE);
        DUE.refused(x, "treat(1, 0) again", () -> x.treat(1, 0), FirstLanding.STATE);
        x.step(0);
        x.step(2);
        DUE.refused(x, "treat(1, 2): 5 and 8", () -> x.treat(1, 2), FirstLanding.STATE);
        DUE.refused(x, "treat(0, 0)", () -> x.treat(0, 0), FirstLanding.BAD);
        DUE.refused(x, "treat(0, 3)", () -> x.treat(0, 3), FirstLanding.BAD);
        DUE.refused(x, "treat(3, 0)", () -> x.treat(3, 0), FirstLanding.BAD);
        DUE.refused(x, "treat(-1, 0)", () -> x.treat(-1, 0), FirstLanding.BAD);
        DUE.is("a treaty stays when one has gone", x.count(3), 1);
        FirstLanding y = Due.embassy("n2g01g00");
        y.step(0);
        y.step(1);
        DUE.refused(y, "1 and 0: not there", () -> y.treat(0, 1), FirstLanding.STATE);
        FirstLanding z = Due.embassy("n2g04g60");
        z.step(0);
        z.step(1);
        DUE.refused(z, "4 and 6", () -> z.treat(0, 1), FirstLanding.STATE);
    }

    private static void full() {
        FirstLanding x = Due.embassy("n3g055g505g500");
        for (int i = 0; i < 38; i++) {
            x.step(2);
        }
        x.step(0);
        x.step(1);
        DUE.is("forty deeds", x.count(2), 40);
        DUE.refused(x, "step, full", () -> x.step(0), FirstLanding.FULL);
        DUE.refused(x, "meet, full", () -> x.meet(2, 1, 3), FirstLanding.FULL);
        DUE.refused(x, "treat, full", () -> x.treat(0, 1), FirstLanding.FULL);
        DUE.refused(x, "step, bad ahead of full", () -> x.step(3), FirstLanding.BAD);
        DUE.refused(x, "meet, bad ahead of full", () -> x.meet(2, 2, 3), FirstLanding.BAD);
        DUE.refused(x, "meet, state ahead of full", () -> x.meet(0, 1, 3), FirstLanding.STATE);
        DUE.refused(x, "treat, state ahead of full", () -> x.treat(0, 2), FirstLanding.STATE);
        DUE.is("undo(39)", x.undo(39), 1);
        DUE.is("who is up", x.count(1), 1);
        DUE.is("step again", x.step(1), 2);
        x.undo(39);
        DUE.is("a meeting is the fortieth", x.meet(2, 1, 3), 0);
        x.undo(38);
        x.step(1);
        x.undo(37);
        x.step(0);
        x.step(1);
        DUE.is("a treaty is the fortieth", x.treat(0, 1), 1);
        DUE.is("forty deeds again", x.count(2), 40);
    }

    private static void undone() {
        FirstLanding x = Due.embassy("n3g055g505g500");
        long atFirst = x.digest();
        x.step(0);
        x.step(1);
        long up = x.digest();
        x.treat(1, 0);
        long bound = x.digest();
        x.meet(2, 1, 7);
        x.step(0);
        DUE.is("undo(3)", x.undo(3), 2);
        DUE.is("as it was with a treaty", x.digest(), bound);
        DUE.is("undo(2)", x.undo(2), 1);
        DUE.is("as it was, two up", x.digest(), up);
        x.meet(2, 1, 7);
        x.treat(0, 1);
        DUE.is("undo(0)", x.undo(0), 4);
        DUE.is("as it was at first", x.digest(), atFirst);
    }

    private static void undoneWrongly() {
        FirstLanding x = Due.embassy("n2g05g50");
        DUE.refused(x, "undo(0) of no deeds", () -> x.undo(0), FirstLanding.BAD);
        x.step(0);
        DUE.refused(x, "undo(1) of one deed", () -> x.undo(1), FirstLanding.BAD);
        DUE.refused(x, "undo(2) of one deed", () -> x.undo(2), FirstLanding.BAD);
        DUE.refused(x, "undo(-1)", () -> x.undo(-1), FirstLanding.BAD);
        DUE.is("undo(0) of one deed", x.undo(0), 1);
    }

    private static void kept() {
        FirstLanding x = new FirstLanding();
        DUE.refused(x, "keep(0) without people", () -> x.keep(0), FirstLanding.STATE);
        DUE.refused(x, "keep(3) without people", () -> x.keep(3), FirstLanding.BAD);
        DUE.finding(x, "on(0), none kept", () -> x.on(0), NOTHING);
        Due.write(x, 0, "n3g055g505g500");
        x.embassy(0);
        DUE.is("keep(0)", x.keep(0), 0);
        x.step(0);
        x.step(1);
        x.treat(0, 1);
        x.meet(2, 1, 4);
        DUE.is("keep(2)", x.keep(2), 4);
        long full = x.digest();
        DUE.is("two kept", x.count(9), 2);
        x.undo(1);
        x.step(2);
        DUE.is("on(2)", x.on(2), 4);
        DUE.is("as it was kept", x.digest(), full);
        DUE.is("its deeds can be undone", x.undo(2), 2);
        DUE.is("looks are 0 again", x.looks(2, 1), 0);
        DUE.is("no treaties", x.count(3), 0);
        DUE.is("on(2) again", x.on(2), 4);
        DUE.is("as it was kept yet", x.digest(), full);
        DUE.is("on(0)", x.on(0), 0);
        DUE.is("nobody up", x.count(1), 0);
        DUE.is("two kept yet", x.count(9), 2);
        x.step(1);
        DUE.is("keep(0) anew", x.keep(0), 1);
        DUE.finding(x, "on(1)", () -> x.on(1), NOTHING);
        DUE.refused(x, "keep(3)", () -> x.keep(3), FirstLanding.BAD);
        DUE.refused(x, "keep(-1)", () -> x.keep(-1), FirstLanding.BAD);
        DUE.refused(x, "on(3)", () -> x.on(3), FirstLanding.BAD);
        DUE.refused(x, "on(-1)", () -> x.on(-1), FirstLanding.BAD);
    }
}

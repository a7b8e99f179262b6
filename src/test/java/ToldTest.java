/** Promises 38 to 44: what is told. */
public final class ToldTest {
    private static final Due DUE = new Due();

    public static void main(String[] args) {
        asked();
        counts();
        findings();
        digests();
        constants();
        DUE.end("ToldTest");
    }

    private static void asked() {
        FirstLanding x = Due.embassy("n3g044g404g440");
        DUE.is("before any", x.asked(), 0);
        Due.row(x, 0, 6, 8);
        x.mean(0);
        DUE.is("by mean()", x.asked(), 7);
        x.fits(0, 1, 5);
        x.seems(0, 7);
        x.there(7);
        x.knows(0, 1);
        x.hears(0, 1);
        x.missions(1);
        x.meetings(0, 7, 4);
        x.step(0);
        x.mid(0, 0);
        x.undo(0);
        x.keep(0);
        x.on(0);
        x.count(0);
        DUE.is("these tell nothing by asked()", x.asked(), 7);
        x.embassy(0);
        DUE.is("nor does an embassy anew", x.asked(), 7);
        x.add(7);
        DUE.is("NONE tells nothing", x.asked(), 7);
        x.worst(7);
        DUE.is("by worst()", x.asked(), 0);
        x.at(0, 1);
        x.worst(1);
        DUE.is("NONE of worst() tells nothing", x.asked(), 8);
    }

    private static void counts() {
        FirstLanding x = Due.embassy("n5e00000c10000s00000k00000v00000");
        int[] atFirst = {5, 0, 0, 0, 19, 2, 2, 0, 1, 0};
        for (int what = 0; what <= 9; what++) {
            DUE.is("count(" + what + ")", x.count(what), atFirst[what]);
        }
        x.step(4);
        x.step(1);
        x.meet(0, 1, 2);
        x.step(0);
        x.step(4);
        x.treat(0, 1);
        x.row(3, 1);
        x.row(4, 0);
        x.text(3, 0);
        x.keep(1);
        int[] then = {5, 3, 6, 1, 18, 2, 2, 2, 2, 1};
        for (int what = 0; what <= 9; what++) {
            DUE.is("count(" + what + ") then", x.count(what), then[what]);
        }
        DUE.refused(x, "count(10)", () -> x.count(10), FirstLanding.BAD);
        DUE.refused(x, "count(-1)", () -> x.count(-1), FirstLanding.BAD);
    }

    private static void findings() {
        FirstLanding x = new FirstLanding();
        x.tear(0);
        x.tear(1);
        x.row(0, 0);
        x.at(0, 0);
        x.mean(0);
        DUE.is("the latest", x.finding(), 4);
        x.row(0, 1);
        x.at(0, 0);
        x.at(9, 0);
        DUE.is("the latest yet", x.finding(), 4);
        int[] times = {2, 1, 0, 1, 0};
        for (int f = 1; f <= 5; f++) {
            DUE.is("findings(" + f + ")", x.findings(f), times[f - 1]);
        }
        DUE.is("findings(0)", x.findings(0), FirstLanding.BAD);
        DUE.is("findings(6)", x.findings(6), FirstLanding.BAD);
        DUE.is("findings(-1)", x.findings(-1), FirstLanding.BAD);
    }

    private static long digest(long... values) {
        long h = 17;
        for (long v : values) {
            h = 31 * h + v;
        }
        return h;
    }

    private static void digests() {
        FirstLanding x = new FirstLanding();
        DUE.is("digest() of a new object", x.digest(), digest(0, 0, 0, 0, 0, 0, 0, 0, 0, 0,
            -1, -1, -1, -1, -1, -1, -1, -1, -1, -1, -1, -1, -1));
        Due.write(x, 1, "n2c04k50");
        x.embassy(1);
        x.put(1, 0, 200);
        x.keep(1);
        x.step(0);
        x.step(1);
        x.treat(1, 0);
        x.keep(2);
        x.step(1);
        Due.row(x, 2, -5, 2000000000);
        x.row(5, 0);
        x.text(3, 0);
        x.mean(2);
        int asked = x.asked();
        DUE.is("digest()", x.digest(), digest(2, 1, 4, 1, 0, 1, 1, 2, 2, 2,
            4, 1, 0, 1, 0, 0, 4,
            5, 0, 5, 1, 0, 5, 0,
            -1, 0, 3,
            -1, -1, 2, -5, 2000000000, -1, -1, 0,
            -1, 8, -56, 50, 99, 48, 52, 107, 53, 48, -1, 0));
        DUE.is("digest() tells nothing by asked()", x.asked(), asked);
    }

    private static void constants() {
        DUE.is("BAD", FirstLanding.BAD, -1);
        DUE.is("FULL", FirstLanding.FULL, -2);
        DUE.is("FINDING", FirstLanding.FINDING, -3);
        DUE.is("STATE", FirstLanding.STATE, -4);
        DUE.is("SPENT", FirstLanding.SPENT, -6);
        DUE.is("NONE", FirstLanding.NONE, -9);
    }
}

/** Promises 10 to 14: faults of texts, embassies, people, looks, marks. */
public final class EmbassyTest {
    private static final int NOTHING = 1, UNLIKE = 3;
    private static final Due DUE = new Due();

    public static void main(String[] args) {
        faults();
        embassies();
        people();
        marks();
        DUE.end("EmbassyTest");
    }

    private static void fault(String signs, int want) {
        FirstLanding x = new FirstLanding();
        Due.write(x, 2, signs);
        DUE.is("fault of '" + signs + "'", x.fault(2), want);
        int people = want == FirstLanding.NONE ? signs.trim().charAt(1) - '0' : FirstLanding.STATE;
        DUE.is("embassy of '" + signs + "'", x.embassy(2), people);
    }

    private static void faults() {
        fault("n2g00g00", FirstLanding.NONE);
        fault("  n2   e19 k90  ", FirstLanding.NONE);
        fault("n6g000000e111111s222222v333333c444444k999999", FirstLanding.NONE);
        fault("n3v123c456s789", FirstLanding.NONE);
        fault("", 0);
        fault("    ", 4);
        fault("x", 0);
        fault(" N2g00g00", 1);
        fault("n", 1);
        fault("n ", 1);
        fault("n 2g00g00", 1);
        fault("n1g0", 1);
        fault("n7", 1);
        fault("nn", 1);
        fault("n2", 2);
        fault("n2  ", 4);
        fault("n22g00g00", 2);
        fault("n2h00g00", 2);
        fault("n2G00g00", 2);
        fault("n2g", 3);
        fault("n2g 00g00", 3);
        fault("n2g0", 4);
        fault("n2g0 0g00", 4);
        fault("n2g0:g00", 4);
        fault("n2g0/g00", 4);
        fault("n2g00", 5);
        fault("n2g00 ", 6);
        fault("n2g000g00", 5);
        fault("n2g00g0", 7);
        fault("n2g00g00g", 8);
        fault("n2g00g00 g00", 9);
        fault("n2g00g00  5", 10);
        fault("n2g00g00n2g00g00", 8);
        fault("n2g00\u00e700", 5);
        FirstLanding x = new FirstLanding();
        DUE.finding(x, "fault(3)", () -> x.fault(3), NOTHING);
        DUE.refused(x, "fault(4)", () -> x.fault(4), FirstLanding.BAD);
        DUE.refused(x, "fault(-1)", () -> x.fault(-1), FirstLanding.BAD);
    }

    private static void embassies() {
        FirstLanding x = Due.embassy("n3g123e456s789");
        x.step(0);
        x.step(1);
        x.keep(0);
        x.keep(2);
        DUE.is("two kept", x.count(9), 2);
        Due.write(x, 1, "n2k01v20 ?");
        DUE.refused(x, "embassy with a fault", () -> x.embassy(1), FirstLanding.STATE);
        DUE.is("two kept yet", x.count(9), 2);
        DUE.finding(x, "embassy(3)", () -> x.embassy(3), NOTHING);
        DUE.refused(x, "embassy(4)", () -> x.embassy(4), FirstLanding.BAD);
        DUE.refused(x, "embassy(-1)", () -> x.embassy(-1), FirstLanding.BAD);
        Due.write(x, 1, "n2k01v20");
        DUE.is("embassy anew", x.embassy(1), 2);
        DUE.is("none kept", x.count(9), 0);
        DUE.is("nobody up", x.count(1), 0);
        DUE.is("no deeds", x.count(2), 0);
        DUE.finding(x, "on(0) of what went", () -> x.on(0), NOTHING);
        DUE.is("looks(0, 1)", x.looks(0, 1), 1);
        DUE.is("looks(1, 0)", x.looks(1, 0), 2);
        DUE.is("looks(1, 1)", x.looks(1, 1), 0);
        x.put(1, 3, '9');
        DUE.is("an embassy stays, if its text changes", x.looks(0, 0), 0);
        DUE.refused(x, "looks(2, 0)", () -> x.looks(2, 0), FirstLanding.BAD);
        DUE.refused(x, "looks(0, 2)", () -> x.looks(0, 2), FirstLanding.BAD);
        DUE.refused(x, "looks(-1, 0)", () -> x.looks(-1, 0), FirstLanding.BAD);
        DUE.refused(x, "looks(0, -1)", () -> x.looks(0, -1), FirstLanding.BAD);
    }

    private static void people() {
        FirstLanding x = Due.embassy("n4g9203e5500s0640k0070");
        int[] kinds = {0, 1, 2, 5};
        int[] unmade = {1, 2, 2, 2};
        for (int a = 0; a < 4; a++) {
            DUE.asked(x, "kind of " + a, x.person(a, 0), 1, kinds[a]);
            DUE.asked(x, "unmade by " + a, x.person(a, 4), 1, unmade[a]);
            DUE.asked(x, "alone " + a, x.person(a, 2), 1, 0);
        }
        x.step(0);
        x.step(1);
        DUE.asked(x, "0 is up", x.person(0, 1), 1, 1);
        DUE.asked(x, "2 is not up", x.person(2, 1), 1, 0);
        DUE.asked(x, "0 seems with 1", x.person(0, 2), 1, 2);
        DUE.asked(x, "1 seems with 0", x.person(1, 2), 1, 5);
        DUE.asked(x, "2 seems with 0 and 1", x.person(2, 2), 1, 0);
        DUE.asked(x, "3 seems with 0 and 1", x.person(3, 2), 1, 0);
        x.step(2);
        DUE.asked(x, "3 seems with three", x.person(3, 2), 1, 7);
        x.step(1);
        x.step(0);
        x.step(3);
        DUE.is("2 is not there with 3", x.treat(2, 3), FirstLanding.STATE);
        DUE.asked(x, "no treaties", x.person(2, 3), 1, 0);
        DUE.refused(x, "person(4, 0)", () -> x.person(4, 0), FirstLanding.BAD);
        DUE.refused(x, "person(-1, 0)", () -> x.person(-1, 0), FirstLanding.BAD);
        DUE.refused(x, "person(0, 5)", () -> x.person(0, 5), FirstLanding.BAD);
        DUE.refused(x, "person(0, -1)", () -> x.person(0, -1), FirstLanding.BAD);
        FirstLanding y = Due.embassy("n3g055g505g550");
        y.step(0);
        y.step(1);
        y.step(2);
        y.treat(0, 2);
        y.treat(2, 1);
        DUE.asked(y, "treaties of 2", y.person(2, 3), 1, 2);
        DUE.asked(y, "treaties of 0", y.person(0, 3), 1, 1);
        DUE.asked(y, "treaties of 1", y.person(1, 3), 1, 1);
    }

    private static void marks() {
        FirstLanding x = Due.embassy("n6e935500s213100v703020c550050k400009c000000");
        DUE.is("envoy 0: its own look is left out, the least number", x.mark(0, 1), 2);
        DUE.is("spy 1: its own look is left out, the least number", x.mark(1, 2), 4);
        DUE.is("valet 2: looks 0 to others", x.mark(2, 3), 3);
        DUE.is("chief 3 as an envoy", x.mark(3, 1), 0);
        DUE.is("chief 3 as a chief", x.mark(3, 4), 2);
        DUE.is("chief 5 as an envoy", x.mark(5, 1), 0);
        DUE.is("child 4 as a spy", x.mark(4, 2), 1);
        DUE.is("child 4 as a child", x.mark(4, 5), 3);
        for (int a = 0; a < 6; a++) {
            for (int kind = 1; kind <= 5; kind++) {
                if (!isOf(a, kind)) {
                    int who = a;
                    int what = kind;
                    DUE.finding(x, "mark(" + a + ", " + kind + ")", () -> x.mark(who, what), UNLIKE);
                }
            }
        }
        DUE.refused(x, "mark(0, 0)", () -> x.mark(0, 0), FirstLanding.BAD);
        DUE.refused(x, "mark(0, 6)", () -> x.mark(0, 6), FirstLanding.BAD);
        DUE.refused(x, "mark(6, 1)", () -> x.mark(6, 1), FirstLanding.BAD);
        DUE.refused(x, "mark(-1, 1)", () -> x.mark(-1, 1), FirstLanding.BAD);
        FirstLanding y = Due.embassy("n2g11g11");
        DUE.refused(y, "mark(0, 0) of a guest", () -> y.mark(0, 0), FirstLanding.BAD);
        DUE.finding(y, "mark(0, 1) of a guest", () -> y.mark(0, 1), UNLIKE);
    }

    private static boolean isOf(int a, int kind) {
        int[] own = {1, 2, 3, 4, 5, 4};
        return own[a] == kind || own[a] == 4 && kind == 1 || own[a] == 5 && kind == 2;
    }
}

/** Promises 29 to 33: notes, kinds, who can know of whom. */
public final class NotesTest {
    private static final int NOTHING = 1, UNLIKE = 3, SIZE = 5;
    private static final Due DUE = new Due();

    public static void main(String[] args) {
        fits();
        kinds();
        wrongNotes();
        tells();
        knowing();
        DUE.end("NotesTest");
    }

    private static void fits() {
        FirstLanding x = Due.embassy("n3e042g104k330");
        Due.row(x, 0);
        DUE.is("no notes: all", x.fits(0, 1, 0), 1023);
        Due.row(x, 0, 6, 4);
        DUE.is("envoy: 4 is the greatest", x.fits(0, 1, 0), 16);
        DUE.is("envoy: with 4 to 1 it is 0 .. 4", x.fits(0, 2, 0), 31);
        Due.row(x, 0, 6, 4, 4, 2);
        DUE.is("and 2 with 2", x.fits(0, 2, 0), 4);
        Due.row(x, 0, 6, 4, 4, 5);
        DUE.is("not both", x.fits(0, 2, 0), 0);
        Due.row(x, 0, 5, 2);
        DUE.is("guest: x and 4 by 2", x.fits(1, 0, 0), 3);
        Due.row(x, 0, 3, 3);
        DUE.is("child: 0, 3 .. 9 beside 3", x.fits(2, 0, 0), 1017);
        DUE.is("its looks are as they were", x.looks(2, 0), 3);
        Due.row(x, 0, 6, 9);
        DUE.is("9 can be noted", x.fits(0, 1, 0), 512);
        DUE.refused(x, "fits(0, 0, 0)", () -> x.fits(0, 0, 0), FirstLanding.BAD);
        DUE.refused(x, "fits(3, 0, 0)", () -> x.fits(3, 0, 0), FirstLanding.BAD);
        DUE.refused(x, "fits(0, 3, 0)", () -> x.fits(0, 3, 0), FirstLanding.BAD);
        DUE.refused(x, "fits(-1, 0, 0)", () -> x.fits(-1, 0, 0), FirstLanding.BAD);
        DUE.refused(x, "fits(0, 1, 6)", () -> x.fits(0, 1, 6), FirstLanding.BAD);
        DUE.refused(x, "fits(0, 0, 5), bad ahead", () -> x.fits(0, 0, 5), FirstLanding.BAD);
    }

    private static void kinds() {
        FirstLanding x = Due.embassy("n4e0420g1040k3300v0000");
        Due.row(x, 5);
        DUE.is("no notes: all", x.kinds(0, 5), 63);
        Due.row(x, 5, 6, 4);
        DUE.is("4 with 4, 2: envoy, valet", x.kinds(0, 5), 10);
        Due.row(x, 5, 14, 2);
        DUE.is("2 with 4, 2, 0: guest, child", x.kinds(0, 5), 33);
        Due.row(x, 5, 14, 0);
        DUE.is("0 with 4, 2, 0: spy", x.kinds(0, 5), 4);
        Due.row(x, 5, 6, 5);
        DUE.is("5 with 4, 2: chief", x.kinds(0, 5), 16);
        Due.row(x, 5, 6, 4, 12, 2, 15, 4, 0, 0, 1, 0, 7, 4);
        DUE.is("six notes", x.kinds(0, 5), 10);
        DUE.refused(x, "kinds(4, 5)", () -> x.kinds(4, 5), FirstLanding.BAD);
        DUE.refused(x, "kinds(-1, 5)", () -> x.kinds(-1, 5), FirstLanding.BAD);
        DUE.refused(x, "kinds(0, 6)", () -> x.kinds(0, 6), FirstLanding.BAD);
        DUE.refused(x, "kinds(0, -1)", () -> x.kinds(0, -1), FirstLanding.BAD);
    }

    private static void wrongNotes() {
        FirstLanding x = Due.embassy("n3e042g104k330");
        wrong(x, "a missing row", NOTHING);
        Due.row(x, 1, 1, 1, 1);
        wrong(x, "one and a half notes", SIZE);
        x.row(1, 14);
        wrong(x, "seven notes", SIZE);
        Due.row(x, 1, 1, 1, 8);
        wrong(x, "size ahead of unlike", SIZE);
        Due.row(x, 1, 1, 0, 8, 0);
        wrong(x, "no set", UNLIKE);
        Due.row(x, 1, -1, 0);
        wrong(x, "a set below 0", UNLIKE);
        Due.row(x, 1, 1, 10);
        wrong(x, "what one can't seem", UNLIKE);
        Due.row(x, 1, 6, 9, 6, -1);
        wrong(x, "less than one can seem", UNLIKE);
    }

    private static void wrong(FirstLanding x, String what, int finding) {
        DUE.finding(x, "fits: " + what, () -> x.fits(0, 1, 1), finding);
        DUE.finding(x, "kinds: " + what, () -> x.kinds(0, 1), finding);
    }

    private static void tells() {
        FirstLanding x = Due.embassy("n3g042e903s000");
        DUE.asked(x, "4, 2: guest 3, envoy 4, spy 2, valet 4, chief 5, child 2", x.tells(0), 6, 4);
        DUE.asked(x, "9, 3: 6, 9, 3, 9, 9, 3", x.tells(1), 5, 3);
        DUE.asked(x, "all 0: one sort with nobody", x.tells(2), 0, 1);
        DUE.refused(x, "tells(3)", () -> x.tells(3), FirstLanding.BAD);
        DUE.refused(x, "tells(-1)", () -> x.tells(-1), FirstLanding.BAD);
        DUE.is("the kind is as it was", x.person(0, 0), 1);
        DUE.is("guest", x.asked(), 0);
    }

    private static void knowing() {
        // 0 has seen 1, 1 has seen 2, 2 has seen 3; 3 has seen itself alone; 4 has seen 3.
        FirstLanding x = Due.embassy("n5g00000g10000g01000g00111g00000");
        DUE.is("knows(0, 0)", x.knows(0, 0), 1);
        DUE.is("knows(0, 1)", x.knows(0, 1), 3);
        DUE.is("knows(0, 2)", x.knows(0, 2), 7);
        DUE.is("knows(0, 3)", x.knows(0, 3), 15);
        DUE.is("knows(0, 9)", x.knows(0, 9), 15);
        DUE.is("knows(4, 9)", x.knows(4, 9), 24);
        DUE.is("knows(3, 9)", x.knows(3, 9), 8);
        DUE.is("hears(0, 0)", x.hears(0, 0), 0);
        DUE.is("hears(0, 3)", x.hears(0, 3), 3);
        DUE.is("hears(4, 3)", x.hears(4, 3), 1);
        DUE.is("hears(3, 4)", x.hears(3, 4), FirstLanding.NONE);
        DUE.is("hears(0, 4)", x.hears(0, 4), FirstLanding.NONE);
        FirstLanding chain = Due.embassy("n6g000000g100000g010000g001000g000100g000010");
        DUE.is("five steps", chain.hears(0, 5), 5);
        DUE.refused(x, "knows(5, 0)", () -> x.knows(5, 0), FirstLanding.BAD);
        DUE.refused(x, "knows(-1, 0)", () -> x.knows(-1, 0), FirstLanding.BAD);
        DUE.refused(x, "knows(0, 10)", () -> x.knows(0, 10), FirstLanding.BAD);
        DUE.refused(x, "knows(0, -1)", () -> x.knows(0, -1), FirstLanding.BAD);
        DUE.refused(x, "hears(5, 0)", () -> x.hears(5, 0), FirstLanding.BAD);
        DUE.refused(x, "hears(0, 5)", () -> x.hears(0, 5), FirstLanding.BAD);
        DUE.refused(x, "hears(-1, -1)", () -> x.hears(-1, -1), FirstLanding.BAD);
    }
}

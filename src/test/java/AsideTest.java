/** Promises 21 to 26: what each seems, who is there, agrees, sets where all is well, whom to add, the worst. */
public final class AsideTest {
    private static final Due DUE = new Due();

    public static void main(String[] args) {
        seemings();
        there();
        agreeing();
        well();
        adding();
        worst();
        withoutPeople();
        DUE.end("AsideTest");
    }

    private static void seemings() {
        // Each of the six kinds with the same looks 0, 4, 2, 0, 7 to the five others.
        String[] letters = {"g", "e", "s", "v", "c", "k"};
        int[] withAll = {2, 7, 0, 0, 8, 2};
        int[] with2And3 = {3, 4, 2, 4, 5, 2};
        int[] with1And4 = {0, 0, 0, 0, 0, 0};
        int[] with3And5 = {4, 7, 2, 2, 8, 2};
        for (int k = 0; k < 6; k++) {
            String others = "g000000g000000g000000g000000g000000";
            FirstLanding x = Due.embassy("n6" + letters[k] + "904207" + others);
            DUE.is(letters[k] + " with nobody", x.seems(0, 0), 0);
            DUE.is(letters[k] + " with oneself", x.seems(0, 1), 0);
            DUE.is(letters[k] + " with all", x.seems(0, 63), withAll[k]);
            DUE.is(letters[k] + " with all others", x.seems(0, 62), withAll[k]);
            DUE.is(letters[k] + " with 2, 3", x.seems(0, 12), with2And3[k]);
            DUE.is(letters[k] + " with 1, 4", x.seems(0, 18), with1And4[k]);
            DUE.is(letters[k] + " with 3, 5", x.seems(0, 41), with3And5[k]);
            DUE.refused(x, "seems(6, 0)", () -> x.seems(6, 0), FirstLanding.BAD);
            DUE.refused(x, "seems(-1, 0)", () -> x.seems(-1, 0), FirstLanding.BAD);
            DUE.refused(x, "seems(0, 64)", () -> x.seems(0, 64), FirstLanding.BAD);
            DUE.refused(x, "seems(0, -1)", () -> x.seems(0, -1), FirstLanding.BAD);
        }
        FirstLanding nine = Due.embassy("n2c09c80");
        DUE.is("a chief is 9 at most", nine.seems(0, 2), 9);
        DUE.is("a chief of 8 is 9", nine.seems(1, 1), 9);
        DUE.refused(nine, "seems(0, 4) of two", () -> nine.seems(0, 4), FirstLanding.BAD);
    }

    private static void there() {
        FirstLanding x = Due.embassy("n4s0120g1000e0003k0000");
        DUE.is("there(15)", x.there(15), 4);
        DUE.is("there(7)", x.there(7), 1);
        DUE.is("there(3)", x.there(3), 3);
        DUE.is("there(8)", x.there(8), 0);
        DUE.is("there(0)", x.there(0), 0);
        DUE.is("there(12)", x.there(12), 4);
        DUE.refused(x, "there(16)", () -> x.there(16), FirstLanding.BAD);
        DUE.refused(x, "there(-1)", () -> x.there(-1), FirstLanding.BAD);
    }

    private static void agreeing() {
        FirstLanding x = Due.embassy("n4v0300v5055v0404v0240");
        DUE.asked(x, "agree(15): 3, 5, 0, 0", x.agree(15), 0, FirstLanding.NONE);
        DUE.asked(x, "agree(14): 5, 4, 2", x.agree(14), 1, 8);
        DUE.asked(x, "agree(12): 4, 4", x.agree(12), 1, 15);
        DUE.asked(x, "agree(8)", x.agree(8), 0, FirstLanding.NONE);
        DUE.asked(x, "agree(0)", x.agree(0), 0, FirstLanding.NONE);
        DUE.refused(x, "agree(16)", () -> x.agree(16), FirstLanding.BAD);
        DUE.refused(x, "agree(-1)", () -> x.agree(-1), FirstLanding.BAD);
        FirstLanding y = Due.embassy("n3g055g505g550");
        DUE.asked(y, "all agree", y.agree(7), 3, 1);
        DUE.asked(y, "1 and 2 agree", y.agree(6), 1, 8);
    }

    private static void well() {
        FirstLanding x = Due.embassy("n4v0300v5055v0404v0240");
        DUE.asked(x, "two at most", x.well(), 2, 6);
        FirstLanding y = Due.embassy("n3g055g505g550");
        DUE.asked(y, "all", y.well(), 3, 7);
        FirstLanding z = Due.embassy("n3g000g000g000");
        DUE.asked(z, "one alone", z.well(), 1, 1);
        FirstLanding w = Due.embassy("n4g0190g1090g9909g0090");
        DUE.asked(w, "of equally many the least number", w.well(), 2, 3);
    }

    private static void adding() {
        FirstLanding x = Due.embassy("n4g0550g5050g5500g0000");
        DUE.asked(x, "add(3)", x.add(3), 2, 3);
        DUE.asked(x, "add(0): the first", x.add(0), 0, 0);
        DUE.asked(x, "add(1)", x.add(1), 1, 1);
        DUE.asked(x, "add(7): 3, 3, 3, 0", x.add(7), 3, 3);
        DUE.asked(x, "add(15): all are in it", x.add(15), FirstLanding.NONE, 3);
        DUE.asked(x, "add(8)", x.add(8), 0, 0);
        DUE.refused(x, "add(16)", () -> x.add(16), FirstLanding.BAD);
        DUE.refused(x, "add(-1)", () -> x.add(-1), FirstLanding.BAD);
    }

    private static void worst() {
        FirstLanding x = Due.embassy("n4v0300v5055v0404v0240");
        DUE.asked(x, "worst(14): 5, 4, 2", x.worst(14), 9, 3);
        DUE.asked(x, "worst(12): 4, 4", x.worst(12), 15, 0);
        DUE.asked(x, "worst(15): 3, 5, 0, 0", x.worst(15), 1, 2);
        DUE.asked(x, "worst(5): one is not there", x.worst(5), FirstLanding.NONE, 2);
        DUE.asked(x, "worst(2)", x.worst(2), FirstLanding.NONE, 2);
        DUE.refused(x, "worst(16)", () -> x.worst(16), FirstLanding.BAD);
        DUE.refused(x, "worst(-1)", () -> x.worst(-1), FirstLanding.BAD);
        FirstLanding y = Due.embassy("n3g055g505g550");
        DUE.asked(y, "alike: the first", y.worst(7), 1, 0);
    }

    private static void withoutPeople() {
        FirstLanding x = new FirstLanding();
        DUE.is("there(0)", x.there(0), 0);
        DUE.is("add(0)", x.add(0), FirstLanding.NONE);
        DUE.is("worst(0)", x.worst(0), FirstLanding.NONE);
        DUE.asked(x, "agree(0)", x.agree(0), 0, FirstLanding.NONE);
        DUE.refused(x, "there(1)", () -> x.there(1), FirstLanding.BAD);
        DUE.refused(x, "well()", () -> x.well(), FirstLanding.STATE);
        DUE.refused(x, "seems(0, 0)", () -> x.seems(0, 0), FirstLanding.BAD);
    }
}

/** Promises 1 to 9, a sentence at a time: the edges of rows and texts. */
public final class RowEdgesTest {
    private static final int BAD = FirstLanding.BAD, NOTHING = 1, BEYOND = 2, NOUGHT = 4, SIZE = 5;
    private static final int MIN = Integer.MIN_VALUE, MAX = Integer.MAX_VALUE;
    private static final int[] NO_ROWS = {MIN, -1, 6, 7, MAX};
    private static final int[] NO_TEXTS = {MIN, -1, 4, 5, MAX};
    private static final Sentences SAYS = new Sentences();
    private static final Due DUE = SAYS.due;

    public static void main(String[] args) {
        SAYS.that(0, "ROWS 0 .. 5 are rows of 0 to 40 ints, TEXTS 0 .. 3 rows of 0 to 60 bytes", RowEdgesTest::allAtOnce);
        SAYS.that(1, "No ROWS, TEXTS, PEOPLE.", RowEdgesTest::newObject);
        SAYS.that(2, "A ROW is there with n ints 0: n.", RowEdgesTest::rowOfEachSize);
        SAYS.that(2, "BAD: also n above 40", RowEdgesTest::rowTooLarge);
        SAYS.that(2, "SIZE: below 0", RowEdgesTest::rowTooSmall);
        SAYS.that(3, "Place i of a ROW is v: what it was, told by asked(): 1.", RowEdgesTest::layAtTheEnds);
        SAYS.that(3, "BAD; NOTHING; BEYOND.", RowEdgesTest::layRefused);
        SAYS.that(4, "Place i of a ROW, told by asked(): 1.", RowEdgesTest::atTheEnds);
        SAYS.that(4, "BAD; NOTHING; BEYOND.", RowEdgesTest::atRefused);
        SAYS.that(5, "A ROW is missing: 1.", RowEdgesTest::tornAndMadeAnew);
        SAYS.that(5, "BAD; NOTHING.", RowEdgesTest::tearRefused);
        SAYS.that(6, "n places of a ROW, from one on, come to those of another one", RowEdgesTest::copyWhole);
        SAYS.that(6, "(perhaps itself) from one on, as if taken ahead: 1.", RowEdgesTest::copyIntoItself);
        SAYS.that(6, "BAD; SIZE: n below 0", RowEdgesTest::copyFewerThanNone);
        SAYS.that(6, "NOTHING: either", RowEdgesTest::copyOfMissing);
        SAYS.that(6, "BEYOND: not so many there.", RowEdgesTest::copyBeyond);
        SAYS.that(7, "The mean of a ROW's ints, cut, told by asked(): 1.", RowEdgesTest::meanCut);
        SAYS.that(7, "BAD; NOTHING; NOUGHT.", RowEdgesTest::meanRefused);
        SAYS.that(8, "A TEXT is there with n blanks: n.", RowEdgesTest::textOfEachSize);
        SAYS.that(8, "BAD: also n above 60", RowEdgesTest::textTooLarge);
        SAYS.that(8, "SIZE: below 0", RowEdgesTest::textTooSmall);
        SAYS.that(9, "Byte i of a TEXT is v, cut to a byte", RowEdgesTest::putCut);
        SAYS.that(9, "what it was, and 1000 more", RowEdgesTest::putAtTheEnds);
        SAYS.that(9, "BAD; NOTHING; BEYOND.", RowEdgesTest::putRefused);
        SAYS.end("RowEdgesTest", 1, 9);
    }

    private static void allAtOnce() {
        FirstLanding x = new FirstLanding();
        for (int r = 0; r <= 5; r++) {
            x.row(r, 40);
        }
        for (int t = 0; t <= 3; t++) {
            x.text(t, 60);
        }
        for (int r = 0; r <= 5; r++) {
            x.lay(r, 0, 100 + r);
            x.lay(r, 39, 200 + r);
        }
        for (int t = 0; t <= 3; t++) {
            x.put(t, 0, 10 + t);
            x.put(t, 59, 20 + t);
        }
        for (int r = 0; r <= 5; r++) {
            DUE.asked(x, "row " + r + ", the first place", x.at(r, 0), 1, 100 + r);
            DUE.asked(x, "row " + r + ", the last place", x.at(r, 39), 1, 200 + r);
        }
        for (int t = 0; t <= 3; t++) {
            DUE.is("text " + t + ", the first byte", x.put(t, 0, 0), 1010 + t);
            DUE.is("text " + t + ", the last byte", x.put(t, 59, 0), 1020 + t);
        }
    }

    private static void newObject() {
        FirstLanding used = Due.embassy("n2g11g11");
        Due.row(used, 0, 1, 2);
        used.step(0);
        used.keep(0);
        used.tear(4);
        FirstLanding x = new FirstLanding();
        for (int what = 0; what <= 9; what++) {
            DUE.is("count(" + what + ") of a new one beside a used one", x.count(what), 0);
        }
        DUE.is("finding() of a new one", x.finding(), 0);
        for (int f = 1; f <= 5; f++) {
            DUE.is("findings(" + f + ") of a new one", x.findings(f), 0);
        }
        DUE.is("digest() of two new ones", x.digest(), new FirstLanding().digest());
        x.row(0, 3);
        DUE.is("the used one has its own rows", used.count(7), 1);
        DUE.asked(used, "and places", used.at(0, 1), 1, 2);
    }

    private static void rowOfEachSize() {
        for (int r = 0; r <= 5; r++) {
            FirstLanding x = new FirstLanding();
            int row = r;
            for (int n = 40; n >= 0; n--) {
                DUE.is("row(" + r + ", " + n + ")", x.row(r, n), n);
                for (int i = 0; i < n; i++) {
                    DUE.asked(x, "place " + i + " of " + n + " is 0", x.lay(r, i, 7), 1, 0);
                }
                int size = n;
                DUE.finding(x, "no place " + n, () -> x.at(row, size), BEYOND);
                DUE.is("one row", x.count(7), 1);
            }
            DUE.is("row(" + r + ", 40) anew", x.row(r, 40), 40);
            DUE.asked(x, "the last place anew", x.at(r, 39), 1, 0);
        }
    }

    private static void rowTooLarge() {
        FirstLanding x = new FirstLanding();
        DUE.refused(x, "row(0, 41)", () -> x.row(0, 41), BAD);
        Due.row(x, 5, 3, 4);
        DUE.refused(x, "row(5, 41) leaves what is there", () -> x.row(5, 41), BAD);
        DUE.refused(x, "row(5, MAX)", () -> x.row(5, MAX), BAD);
        for (int r : NO_ROWS) {
            DUE.refused(x, "row(" + r + ", 1)", () -> x.row(r, 1), BAD);
            DUE.refused(x, "row(" + r + ", -1): BAD ahead of SIZE", () -> x.row(r, -1), BAD);
        }
    }

    private static void rowTooSmall() {
        FirstLanding x = new FirstLanding();
        DUE.finding(x, "row(0, -1)", () -> x.row(0, -1), SIZE);
        Due.row(x, 5, 3, 4);
        DUE.finding(x, "row(5, -1) leaves what is there", () -> x.row(5, -1), SIZE);
        DUE.finding(x, "row(5, MIN)", () -> x.row(5, MIN), SIZE);
        DUE.is("row(5, 0)", x.row(5, 0), 0);
    }

    private static void layAtTheEnds() {
        FirstLanding x = new FirstLanding();
        x.row(0, 40);
        DUE.asked(x, "the first place", x.lay(0, 0, MIN), 1, 0);
        DUE.asked(x, "the last place", x.lay(0, 39, MAX), 1, 0);
        DUE.asked(x, "the least int was there", x.lay(0, 0, -1), 1, MIN);
        DUE.asked(x, "the greatest int was there", x.lay(0, 39, 0), 1, MAX);
        DUE.asked(x, "beside the first place", x.at(0, 1), 1, 0);
        DUE.asked(x, "beside the last place", x.at(0, 38), 1, 0);
    }

    private static void layRefused() {
        FirstLanding x = new FirstLanding();
        Due.row(x, 1, 8, 9);
        x.row(2, 0);
        for (int r : NO_ROWS) {
            DUE.refused(x, "lay(" + r + ", 0, 5)", () -> x.lay(r, 0, 5), BAD);
            DUE.refused(x, "lay(" + r + ", -1, 5): BAD ahead of BEYOND", () -> x.lay(r, -1, 5), BAD);
        }
        DUE.finding(x, "lay in a missing row", () -> x.lay(0, 0, 5), NOTHING);
        DUE.finding(x, "lay(0, 40, 5): NOTHING ahead of BEYOND", () -> x.lay(0, 40, 5), NOTHING);
        DUE.finding(x, "lay in an empty row", () -> x.lay(2, 0, 5), BEYOND);
        for (int i : new int[] {MIN, -1, 2, 39, 40, MAX}) {
            DUE.finding(x, "lay(1, " + i + ", 5)", () -> x.lay(1, i, 5), BEYOND);
        }
    }

    private static void atTheEnds() {
        FirstLanding x = new FirstLanding();
        x.row(5, 40);
        x.lay(5, 0, MIN);
        x.lay(5, 39, MAX);
        DUE.asked(x, "the first place", x.at(5, 0), 1, MIN);
        DUE.asked(x, "the last place", x.at(5, 39), 1, MAX);
        DUE.asked(x, "the last place stays", x.at(5, 39), 1, MAX);
    }

    private static void atRefused() {
        FirstLanding x = new FirstLanding();
        Due.row(x, 1, 8, 9);
        x.row(2, 0);
        for (int r : NO_ROWS) {
            DUE.refused(x, "at(" + r + ", 0)", () -> x.at(r, 0), BAD);
            DUE.refused(x, "at(" + r + ", -1): BAD ahead of BEYOND", () -> x.at(r, -1), BAD);
        }
        DUE.finding(x, "at of a missing row", () -> x.at(0, 0), NOTHING);
        DUE.finding(x, "at(0, 40): NOTHING ahead of BEYOND", () -> x.at(0, 40), NOTHING);
        DUE.finding(x, "at of an empty row", () -> x.at(2, 0), BEYOND);
        for (int i : new int[] {MIN, -1, 2, 39, 40, MAX}) {
            DUE.finding(x, "at(1, " + i + ")", () -> x.at(1, i), BEYOND);
        }
    }

    private static void tornAndMadeAnew() {
        FirstLanding x = new FirstLanding();
        for (int r = 0; r <= 5; r++) {
            Due.row(x, r, 5, 6);
        }
        for (int r = 0; r <= 5; r++) {
            DUE.is("tear(" + r + ")", x.tear(r), 1);
            DUE.is("rows left", x.count(7), 5 - r);
        }
        DUE.is("as new, but for asked()", x.digest(), new FirstLanding().digest());
        x.row(3, 2);
        DUE.asked(x, "a row anew is of 0", x.at(3, 0), 1, 0);
        x.row(4, 0);
        DUE.is("an empty row can be torn", x.tear(4), 1);
    }

    private static void tearRefused() {
        FirstLanding x = new FirstLanding();
        Due.row(x, 0, 5);
        for (int r : NO_ROWS) {
            DUE.refused(x, "tear(" + r + ")", () -> x.tear(r), BAD);
        }
        DUE.finding(x, "tear of a missing row", () -> x.tear(5), NOTHING);
        x.tear(0);
        DUE.finding(x, "tear of a torn row", () -> x.tear(0), NOTHING);
    }

    private static void places(FirstLanding x, String what, int r, int... want) {
        for (int i = 0; i < want.length; i++) {
            DUE.asked(x, what + ": place " + i, x.at(r, i), 1, want[i]);
        }
    }

    private static void copyWhole() {
        FirstLanding x = new FirstLanding();
        x.row(0, 40);
        x.row(5, 40);
        for (int i = 0; i < 40; i++) {
            x.lay(0, i, 100 + i);
        }
        x.at(0, 7);
        DUE.asked(x, "all forty; asked() is as it was", x.copy(0, 0, 5, 0, 40), 1, 107);
        for (int i = 0; i < 40; i++) {
            DUE.asked(x, "copied " + i, x.at(5, i), 1, 100 + i);
            DUE.asked(x, "and left " + i, x.at(0, i), 1, 100 + i);
        }
        Due.row(x, 1, 1, 2, 3);
        Due.row(x, 2, 7, 8, 9);
        DUE.is("none", x.copy(1, 0, 2, 0, 0), 1);
        places(x, "none came", 2, 7, 8, 9);
        DUE.is("the last to the first", x.copy(1, 2, 2, 0, 1), 1);
        places(x, "the last came", 2, 3, 8, 9);
        DUE.is("the first to the last", x.copy(1, 0, 2, 2, 1), 1);
        places(x, "the first came", 2, 3, 8, 1);
        DUE.is("none, just behind both", x.copy(1, 3, 2, 3, 0), 1);
        x.row(3, 0);
        DUE.is("none of an empty row", x.copy(3, 0, 1, 0, 0), 1);
        DUE.is("none into an empty row", x.copy(1, 0, 3, 0, 0), 1);
        places(x, "as it was", 1, 1, 2, 3);
    }

    private static void copyIntoItself() {
        FirstLanding x = new FirstLanding();
        Due.row(x, 0, 1, 2, 3, 4, 5);
        DUE.is("onto itself", x.copy(0, 0, 0, 0, 5), 1);
        places(x, "onto itself", 0, 1, 2, 3, 4, 5);
        DUE.is("one place on", x.copy(0, 0, 0, 1, 4), 1);
        places(x, "one place on", 0, 1, 1, 2, 3, 4);
        DUE.is("one place back", x.copy(0, 1, 0, 0, 4), 1);
        places(x, "one place back", 0, 1, 2, 3, 4, 4);
        DUE.is("the first to the end", x.copy(0, 0, 0, 4, 1), 1);
        places(x, "the first to the end", 0, 1, 2, 3, 4, 1);
    }

    private static void copyFewerThanNone() {
        FirstLanding x = new FirstLanding();
        Due.row(x, 0, 1, 2, 3);
        for (int r : NO_ROWS) {
            DUE.refused(x, "copy(" + r + ", 0, 0, 0, 1)", () -> x.copy(r, 0, 0, 0, 1), BAD);
            DUE.refused(x, "copy(0, 0, " + r + ", 0, 1)", () -> x.copy(0, 0, r, 0, 1), BAD);
            DUE.refused(x, "copy(" + r + ", 0, 0, 0, -1): BAD ahead of SIZE", () -> x.copy(r, 0, 0, 0, -1), BAD);
            DUE.refused(x, "copy(1, 0, " + r + ", 0, 1): BAD ahead of NOTHING", () -> x.copy(1, 0, r, 0, 1), BAD);
        }
        DUE.finding(x, "copy(0, 0, 0, 0, -1)", () -> x.copy(0, 0, 0, 0, -1), SIZE);
        DUE.finding(x, "copy(0, 2, 0, 2, MIN)", () -> x.copy(0, 2, 0, 2, MIN), SIZE);
        DUE.finding(x, "copy(1, 0, 2, 0, -1): SIZE ahead of NOTHING", () -> x.copy(1, 0, 2, 0, -1), SIZE);
        DUE.finding(x, "copy(0, 9, 0, 9, -1): SIZE ahead of BEYOND", () -> x.copy(0, 9, 0, 9, -1), SIZE);
    }

    private static void copyOfMissing() {
        FirstLanding x = new FirstLanding();
        Due.row(x, 0, 1, 2, 3);
        DUE.finding(x, "from a missing row", () -> x.copy(1, 0, 0, 0, 1), NOTHING);
        DUE.finding(x, "to a missing row", () -> x.copy(0, 0, 1, 0, 1), NOTHING);
        DUE.finding(x, "both are missing", () -> x.copy(4, 0, 5, 0, 1), NOTHING);
        DUE.finding(x, "a missing one to itself, none", () -> x.copy(4, 0, 4, 0, 0), NOTHING);
        DUE.finding(x, "NOTHING ahead of BEYOND", () -> x.copy(0, 9, 1, 9, 1), NOTHING);
    }

    private static void copyBeyond() {
        FirstLanding x = new FirstLanding();
        Due.row(x, 0, 1, 2, 3, 4, 5);
        Due.row(x, 1, 7, 8, 9);
        int[][] beyond = {{0, 4, 1, 0, 2}, {0, 5, 1, 0, 1}, {0, 0, 1, 0, 4}, {0, 0, 1, 1, 3}, {0, 0, 1, 3, 1},
            {1, 0, 0, 0, 4}, {0, -1, 1, 0, 2}, {0, 0, 1, -1, 2}, {0, MIN, 1, 0, 1}, {0, 0, 1, MIN, 1},
            {0, MAX, 1, 0, 1}, {0, 0, 1, MAX, 1}, {0, 1, 1, 0, MAX}, {0, 0, 0, 1, MAX}, {0, MAX, 0, MAX, MAX},
            {0, -1, 0, -1, MAX}, {0, 0, 0, 1, 5}, {0, 6, 1, 0, 0}, {0, 0, 1, 4, 0}, {0, -1, 1, 0, 0}, {0, 0, 1, -1, 0}};
        for (int[] c : beyond) {
            DUE.finding(x, "copy(" + java.util.Arrays.toString(c) + ")", () -> x.copy(c[0], c[1], c[2], c[3], c[4]), BEYOND);
        }
    }

    private static int meanOf(int... places) {
        FirstLanding x = new FirstLanding();
        Due.row(x, 0, places);
        return x.mean(0) == 1 ? x.asked() : 999;
    }

    private static void meanCut() {
        DUE.is("of one", meanOf(-8), -8);
        DUE.is("3.5", meanOf(3, 4), 3);
        DUE.is("-3.5", meanOf(-3, -4), -3);
        DUE.is("two thirds", meanOf(1, 1, 0), 0);
        DUE.is("less two thirds", meanOf(-1, -1, 0), 0);
        DUE.is("the least and the greatest: -0.5", meanOf(MIN, MAX), 0);
        DUE.is("a sum that no int holds", meanOf(MAX, MAX), MAX);
        DUE.is("nor below", meanOf(MIN, MIN, MIN), MIN);
        int[] forty = new int[40];
        java.util.Arrays.fill(forty, MAX);
        DUE.is("forty of the greatest", meanOf(forty), MAX);
        java.util.Arrays.fill(forty, MIN);
        DUE.is("forty of the least", meanOf(forty), MIN);
        forty[39] = MAX;
        DUE.is("all of forty count", meanOf(forty), (int) ((39L * MIN + MAX) / 40));
    }

    private static void meanRefused() {
        FirstLanding x = new FirstLanding();
        Due.row(x, 0, 5, 6);
        x.mean(0);
        x.row(1, 0);
        for (int r : NO_ROWS) {
            DUE.refused(x, "mean(" + r + ")", () -> x.mean(r), BAD);
        }
        DUE.finding(x, "mean of a missing row", () -> x.mean(2), NOTHING);
        DUE.finding(x, "mean of an empty row", () -> x.mean(1), NOUGHT);
        x.tear(1);
        DUE.finding(x, "mean of a torn row", () -> x.mean(1), NOTHING);
    }

    private static void textOfEachSize() {
        for (int t = 0; t <= 3; t++) {
            FirstLanding x = new FirstLanding();
            int text = t;
            for (int n = 60; n >= 0; n--) {
                DUE.is("text(" + t + ", " + n + ")", x.text(t, n), n);
                for (int i = 0; i < n; i++) {
                    DUE.is("byte " + i + " of " + n + " is a blank", x.put(t, i, 110), 1032);
                }
                int size = n;
                DUE.finding(x, "no byte " + n, () -> x.put(text, size, 1), BEYOND);
                DUE.is("one text", x.count(8), 1);
            }
            DUE.is("text(" + t + ", 60) anew", x.text(t, 60), 60);
            DUE.is("the last byte anew", x.put(t, 59, 1), 1032);
        }
    }

    private static void textTooLarge() {
        FirstLanding x = new FirstLanding();
        DUE.refused(x, "text(0, 61)", () -> x.text(0, 61), BAD);
        Due.write(x, 3, "abc");
        DUE.refused(x, "text(3, 61) leaves what is there", () -> x.text(3, 61), BAD);
        DUE.refused(x, "text(3, MAX)", () -> x.text(3, MAX), BAD);
        for (int t : NO_TEXTS) {
            DUE.refused(x, "text(" + t + ", 1)", () -> x.text(t, 1), BAD);
            DUE.refused(x, "text(" + t + ", -1): BAD ahead of SIZE", () -> x.text(t, -1), BAD);
        }
    }

    private static void textTooSmall() {
        FirstLanding x = new FirstLanding();
        DUE.finding(x, "text(0, -1)", () -> x.text(0, -1), SIZE);
        Due.write(x, 3, "abc");
        DUE.finding(x, "text(3, -1) leaves what is there", () -> x.text(3, -1), SIZE);
        DUE.finding(x, "text(3, MIN)", () -> x.text(3, MIN), SIZE);
    }

    private static void putCut() {
        FirstLanding x = new FirstLanding();
        x.text(0, 1);
        int[][] cuts = {{127, 127}, {128, -128}, {255, -1}, {256, 0}, {-1, -1}, {-128, -128}, {-129, 127}, {-256, 0},
            {366, 110}, {MAX, -1}, {MIN, 0}, {0, 0}};
        int before = 32;
        for (int[] cut : cuts) {
            DUE.is("put " + cut[0] + " where " + before + " was", x.put(0, 0, cut[0]), 1000 + before);
            before = cut[1];
        }
        DUE.is("the last one", x.put(0, 0, 0), 1000 + before);
    }

    private static void putAtTheEnds() {
        FirstLanding x = new FirstLanding();
        x.row(0, 1);
        x.lay(0, 0, 77);
        x.at(0, 0);
        x.text(3, 60);
        DUE.is("the first byte", x.put(3, 0, 5), 1032);
        DUE.asked(x, "the last byte; asked() is as it was", x.put(3, 59, 6), 1032, 77);
        DUE.is("the first byte was 5", x.put(3, 0, 0), 1005);
        DUE.is("the last byte was 6", x.put(3, 59, 0), 1006);
        DUE.is("beside the first", x.put(3, 1, 0), 1032);
        DUE.is("beside the last", x.put(3, 58, 0), 1032);
    }

    private static void putRefused() {
        FirstLanding x = new FirstLanding();
        Due.write(x, 1, "ab");
        x.text(2, 0);
        for (int t : NO_TEXTS) {
            DUE.refused(x, "put(" + t + ", 0, 5)", () -> x.put(t, 0, 5), BAD);
            DUE.refused(x, "put(" + t + ", -1, 5): BAD ahead of BEYOND", () -> x.put(t, -1, 5), BAD);
        }
        DUE.finding(x, "put in a missing text", () -> x.put(0, 0, 5), NOTHING);
        DUE.finding(x, "put(0, 60, 5): NOTHING ahead of BEYOND", () -> x.put(0, 60, 5), NOTHING);
        DUE.finding(x, "put in an empty text", () -> x.put(2, 0, 5), BEYOND);
        for (int i : new int[] {MIN, -1, 2, 59, 60, MAX}) {
            DUE.finding(x, "put(1, " + i + ", 5)", () -> x.put(1, i, 5), BEYOND);
        }
    }
}

/** Promises 1 to 9: a new object, rows, texts. */
public final class RowsTest {
    private static final int NOTHING = 1, BEYOND = 2, NOUGHT = 4, SIZE = 5;
    private static final Due DUE = new Due();

    public static void main(String[] args) {
        newObject();
        rows();
        places();
        tearing();
        copying();
        overlaps();
        means();
        texts();
        bytes();
        DUE.end("RowsTest");
    }

    private static void newObject() {
        FirstLanding x = new FirstLanding();
        for (int what = 0; what <= 9; what++) {
            DUE.is("new: count(" + what + ")", x.count(what), 0);
        }
        DUE.is("new: asked()", x.asked(), 0);
        DUE.is("new: upper()", x.upper(), 0);
        DUE.is("new: lower()", x.lower(), 1);
        DUE.is("new: finding()", x.finding(), 0);
        for (int r = 0; r < 6; r++) {
            int row = r;
            DUE.finding(x, "new: at(" + r + ", 0)", () -> x.at(row, 0), NOTHING);
        }
        for (int t = 0; t < 4; t++) {
            int text = t;
            DUE.finding(x, "new: fault(" + t + ")", () -> x.fault(text), NOTHING);
        }
        DUE.refused(x, "new: person(0, 0)", () -> x.person(0, 0), FirstLanding.BAD);
        DUE.is("new: findings(1)", x.findings(NOTHING), 10);
    }

    private static void rows() {
        FirstLanding x = new FirstLanding();
        DUE.is("row(0, 0)", x.row(0, 0), 0);
        DUE.is("row(5, 40)", x.row(5, 40), 40);
        DUE.is("two rows", x.count(7), 2);
        DUE.asked(x, "at(5, 39)", x.at(5, 39), 1, 0);
        x.lay(5, 39, 8);
        DUE.is("row(5, 40) again", x.row(5, 40), 40);
        DUE.asked(x, "at(5, 39) anew", x.at(5, 39), 1, 0);
        DUE.refused(x, "row(-1, 3)", () -> x.row(-1, 3), FirstLanding.BAD);
        DUE.refused(x, "row(6, 3)", () -> x.row(6, 3), FirstLanding.BAD);
        DUE.refused(x, "row(5, 41)", () -> x.row(5, 41), FirstLanding.BAD);
        DUE.refused(x, "row(6, -1)", () -> x.row(6, -1), FirstLanding.BAD);
        DUE.refused(x, "row(-2147483648, -2147483648)",
            () -> x.row(Integer.MIN_VALUE, Integer.MIN_VALUE), FirstLanding.BAD);
        DUE.finding(x, "row(5, -1)", () -> x.row(5, -1), SIZE);
        DUE.finding(x, "row(4, -2147483648)", () -> x.row(4, Integer.MIN_VALUE), SIZE);
        DUE.is("still two rows", x.count(7), 2);
        DUE.is("row(5, 3)", x.row(5, 3), 3);
        DUE.finding(x, "at(5, 3) of three", () -> x.at(5, 3), BEYOND);
    }

    private static void places() {
        FirstLanding x = new FirstLanding();
        x.row(2, 3);
        DUE.asked(x, "lay(2, 2, -7)", x.lay(2, 2, -7), 1, 0);
        DUE.asked(x, "lay(2, 2, max)", x.lay(2, 2, Integer.MAX_VALUE), 1, -7);
        DUE.asked(x, "at(2, 2)", x.at(2, 2), 1, Integer.MAX_VALUE);
        DUE.asked(x, "at(2, 0)", x.at(2, 0), 1, 0);
        DUE.refused(x, "lay(6, 0, 1)", () -> x.lay(6, 0, 1), FirstLanding.BAD);
        DUE.refused(x, "lay(-1, 0, 1)", () -> x.lay(-1, 0, 1), FirstLanding.BAD);
        DUE.refused(x, "at(6, 0)", () -> x.at(6, 0), FirstLanding.BAD);
        DUE.refused(x, "at(-1, 0)", () -> x.at(-1, 0), FirstLanding.BAD);
        DUE.finding(x, "lay(3, 0, 1)", () -> x.lay(3, 0, 1), NOTHING);
        DUE.finding(x, "lay(3, -1, 1)", () -> x.lay(3, -1, 1), NOTHING);
        DUE.finding(x, "at(3, 99)", () -> x.at(3, 99), NOTHING);
        DUE.finding(x, "lay(2, 3, 1)", () -> x.lay(2, 3, 1), BEYOND);
        DUE.finding(x, "lay(2, -1, 1)", () -> x.lay(2, -1, 1), BEYOND);
        DUE.finding(x, "at(2, 3)", () -> x.at(2, 3), BEYOND);
        DUE.finding(x, "at(2, -1)", () -> x.at(2, -1), BEYOND);
        DUE.finding(x, "at(2, 40)", () -> x.at(2, 40), BEYOND);
    }

    private static void tearing() {
        FirstLanding x = new FirstLanding();
        x.row(1, 4);
        x.row(2, 4);
        DUE.is("tear(1)", x.tear(1), 1);
        DUE.is("one row", x.count(7), 1);
        DUE.finding(x, "tear(1) again", () -> x.tear(1), NOTHING);
        DUE.finding(x, "at(1, 0) torn", () -> x.at(1, 0), NOTHING);
        DUE.refused(x, "tear(6)", () -> x.tear(6), FirstLanding.BAD);
        DUE.refused(x, "tear(-1)", () -> x.tear(-1), FirstLanding.BAD);
    }

    private static void copying() {
        FirstLanding x = new FirstLanding();
        Due.row(x, 0, 1, 2, 3, 4, 5);
        Due.row(x, 1, 0, 0, 0);
        DUE.is("copy(0, 2, 1, 1, 2)", x.copy(0, 2, 1, 1, 2), 1);
        DUE.asked(x, "at(1, 0)", x.at(1, 0), 1, 0);
        DUE.asked(x, "at(1, 1)", x.at(1, 1), 1, 3);
        DUE.asked(x, "at(1, 2)", x.at(1, 2), 1, 4);
        DUE.is("copy(0, 5, 1, 3, 0)", x.copy(0, 5, 1, 3, 0), 1);
        DUE.is("copy(1, 0, 0, 2, 3)", x.copy(1, 0, 0, 2, 3), 1);
        DUE.asked(x, "at(0, 4)", x.at(0, 4), 1, 4);
        DUE.refused(x, "copy(6, 0, 0, 0, 1)", () -> x.copy(6, 0, 0, 0, 1), FirstLanding.BAD);
        DUE.refused(x, "copy(0, 0, -1, 0, -1)", () -> x.copy(0, 0, -1, 0, -1), FirstLanding.BAD);
        DUE.finding(x, "copy(2, 0, 3, 0, -1)", () -> x.copy(2, 0, 3, 0, -1), SIZE);
        DUE.finding(x, "copy(0, 9, 2, 0, 1)", () -> x.copy(0, 9, 2, 0, 1), NOTHING);
        DUE.finding(x, "copy(2, 0, 0, 9, 1)", () -> x.copy(2, 0, 0, 9, 1), NOTHING);
        DUE.finding(x, "copy(0, 4, 1, 0, 2)", () -> x.copy(0, 4, 1, 0, 2), BEYOND);
        DUE.finding(x, "copy(0, 0, 1, 2, 2)", () -> x.copy(0, 0, 1, 2, 2), BEYOND);
        DUE.finding(x, "copy(0, -1, 1, 0, 1)", () -> x.copy(0, -1, 1, 0, 1), BEYOND);
        DUE.finding(x, "copy(0, 0, 1, -1, 1)", () -> x.copy(0, 0, 1, -1, 1), BEYOND);
        DUE.finding(x, "copy(0, max, 1, 0, max)",
            () -> x.copy(0, Integer.MAX_VALUE, 1, 0, Integer.MAX_VALUE), BEYOND);
        DUE.finding(x, "copy(0, 0, 1, max, 1)", () -> x.copy(0, 0, 1, Integer.MAX_VALUE, 1), BEYOND);
        DUE.finding(x, "copy(0, 6, 1, 0, 0)", () -> x.copy(0, 6, 1, 0, 0), BEYOND);
    }

    private static void overlaps() {
        FirstLanding x = new FirstLanding();
        Due.row(x, 0, 1, 2, 3, 4, 5);
        DUE.is("copy forth into itself", x.copy(0, 0, 0, 1, 4), 1);
        int[] forth = {1, 1, 2, 3, 4};
        for (int i = 0; i < 5; i++) {
            DUE.asked(x, "forth at(0, " + i + ")", x.at(0, i), 1, forth[i]);
        }
        DUE.is("copy back into itself", x.copy(0, 2, 0, 0, 3), 1);
        int[] back = {2, 3, 4, 3, 4};
        for (int i = 0; i < 5; i++) {
            DUE.asked(x, "back at(0, " + i + ")", x.at(0, i), 1, back[i]);
        }
    }

    private static void means() {
        FirstLanding x = new FirstLanding();
        Due.row(x, 0, 3, 4);
        DUE.asked(x, "mean of 3, 4", x.mean(0), 1, 3);
        Due.row(x, 0, 9);
        DUE.asked(x, "mean of 9", x.mean(0), 1, 9);
        Due.row(x, 0, -3, -4);
        DUE.asked(x, "mean of -3, -4", x.mean(0), 1, -3);
        Due.row(x, 0, Integer.MAX_VALUE, Integer.MAX_VALUE, Integer.MAX_VALUE);
        DUE.asked(x, "mean of the greatest", x.mean(0), 1, Integer.MAX_VALUE);
        Due.row(x, 0, Integer.MIN_VALUE, Integer.MIN_VALUE);
        DUE.asked(x, "mean of the least", x.mean(0), 1, Integer.MIN_VALUE);
        x.row(1, 0);
        DUE.finding(x, "mean of none", () -> x.mean(1), NOUGHT);
        DUE.finding(x, "mean of a missing row", () -> x.mean(2), NOTHING);
        DUE.refused(x, "mean(6)", () -> x.mean(6), FirstLanding.BAD);
        DUE.refused(x, "mean(-1)", () -> x.mean(-1), FirstLanding.BAD);
    }

    private static void texts() {
        FirstLanding x = new FirstLanding();
        DUE.is("text(3, 60)", x.text(3, 60), 60);
        DUE.is("text(0, 0)", x.text(0, 0), 0);
        DUE.is("two texts", x.count(8), 2);
        DUE.is("a blank", x.put(3, 59, 65), 1032);
        DUE.is("text(3, 60) again", x.text(3, 60), 60);
        DUE.is("a blank anew", x.put(3, 59, 65), 1032);
        DUE.refused(x, "text(4, 1)", () -> x.text(4, 1), FirstLanding.BAD);
        DUE.refused(x, "text(-1, -1)", () -> x.text(-1, -1), FirstLanding.BAD);
        DUE.refused(x, "text(3, 61)", () -> x.text(3, 61), FirstLanding.BAD);
        DUE.finding(x, "text(3, -1)", () -> x.text(3, -1), SIZE);
    }

    private static void bytes() {
        FirstLanding x = new FirstLanding();
        x.text(1, 2);
        DUE.is("put(1, 0, 127)", x.put(1, 0, 127), 1032);
        DUE.is("put(1, 0, 128)", x.put(1, 0, 128), 1127);
        DUE.is("put(1, 0, 255)", x.put(1, 0, 255), 872);
        DUE.is("put(1, 0, 256)", x.put(1, 0, 256), 999);
        DUE.is("put(1, 0, -129)", x.put(1, 0, -129), 1000);
        DUE.is("put(1, 0, 1)", x.put(1, 0, 1), 1127);
        DUE.refused(x, "put(4, 0, 1)", () -> x.put(4, 0, 1), FirstLanding.BAD);
        DUE.refused(x, "put(-1, 0, 1)", () -> x.put(-1, 0, 1), FirstLanding.BAD);
        DUE.finding(x, "put(2, 0, 1)", () -> x.put(2, 0, 1), NOTHING);
        DUE.finding(x, "put(1, 2, 1)", () -> x.put(1, 2, 1), BEYOND);
        DUE.finding(x, "put(1, -1, 1)", () -> x.put(1, -1, 1), BEYOND);
    }
}

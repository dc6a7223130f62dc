/** Promises 1 to 9 at their edges: the last number allowed, the first that is not, and which refusal comes first. */
public final class EdgesOfRowsTest {
    private static final int LEAST = Integer.MIN_VALUE, MOST = Integer.MAX_VALUE;
    private static final int[] NO_ROWS = {-1, 6, LEAST, MOST};
    private static final int[] NO_TEXTS = {-1, 4, LEAST, MOST};

    public static void main(String[] args) {
        missingAtFirst();
        rowsAllowed();
        rowsRefused();
        rowAnew();
        placesAllowed();
        placesRefused();
        placesOfMissingRows();
        tear();
        copyAllowed();
        copyAsIfTakenAhead();
        copyBeyond();
        copyRefusals();
        copyOrderOfRefusals();
        meanCut();
        meanOfTheGreatest();
        meanRefused();
        textsAllowed();
        textsRefused();
        textAnew();
        putCut();
        putPlaces();
        putRefused();
        Checks.end();
    }

    static void bad(String what, Twins.Call call) {
        Twins.leaves(what, Twins::busy, Checks.BAD, call);
    }

    static void finds(String what, int which, Twins.Call call) {
        Twins.finds(what, Twins::busy, which, call);
    }

    static void missingAtFirst() {
        for (int i = 0; i < 6; i++) {
            int r = i;
            Twins.finds("new: at " + r, x -> { }, Checks.NOTHING, x -> x.at(r, 0));
            Twins.finds("new: lay " + r, x -> { }, Checks.NOTHING, x -> x.lay(r, 0, 1));
            Twins.finds("new: tear " + r, x -> { }, Checks.NOTHING, x -> x.tear(r));
            Twins.finds("new: mean " + r, x -> { }, Checks.NOTHING, x -> x.mean(r));
        }
        for (int i = 0; i < 4; i++) {
            int t = i;
            Twins.finds("new: put " + t, x -> { }, Checks.NOTHING, x -> x.put(t, 0, 1));
            Twins.finds("new: fault " + t, x -> { }, Checks.NOTHING, x -> x.fault(t));
            Twins.finds("new: town " + t, x -> { }, Checks.NOTHING, x -> x.town(t));
        }
        ColourCoupons x = new ColourCoupons();
        for (int what = 0; what <= 10; what++) Checks.due("new: count " + what, x.count(what), 0);
    }

    static void rowsAllowed() {
        for (int r = 0; r < 6; r++) {
            for (int n : new int[] {0, 1, 39, 40}) {
                ColourCoupons x = new ColourCoupons();
                Checks.due("row " + r + ", " + n, x.row(r, n), n);
                Checks.due("rows", x.count(6), 1);
                for (int i = 0; i < n; i++) Checks.tells("an int is 0", x, x.at(r, i), 1, 0);
                Checks.due("and no more", x.at(r, n), Checks.FINDING);
                Checks.due("and no more", x.finding(), Checks.BEYOND);
            }
        }
    }

    static void rowsRefused() {
        for (int no : NO_ROWS) {
            bad("row of no row " + no, x -> x.row(no, 0));
            bad("row of no row " + no, x -> x.row(no, 40));
            bad("no row ahead of a size below 0", x -> x.row(no, -1));
        }
        for (int n : new int[] {41, 42, MOST}) {
            bad("row of " + n, x -> x.row(0, n));
            bad("missing row of " + n, x -> x.row(3, n));
        }
        for (int n : new int[] {-1, -2, LEAST}) {
            finds("row of " + n, Checks.SIZE, x -> x.row(0, n));
            finds("missing row of " + n, Checks.SIZE, x -> x.row(3, n));
        }
    }

    static void rowAnew() {
        ColourCoupons x = new ColourCoupons();
        Checks.fill(x, 0, 1, 2, 3, 4);
        Checks.due("smaller", x.row(0, 2), 2);
        for (int i = 0; i < 2; i++) Checks.tells("0 again", x, x.at(0, i), 1, 0);
        Checks.due("greater", x.row(0, 4), 4);
        for (int i = 0; i < 4; i++) Checks.tells("0 again", x, x.at(0, i), 1, 0);
        Checks.due("one row still", x.count(6), 1);
    }

    static void placesAllowed() {
        for (int n : new int[] {1, 2, 40}) {
            for (int v : new int[] {LEAST, -1, 1, MOST}) {
                ColourCoupons x = new ColourCoupons();
                x.row(5, n);
                Checks.tells("lay first", x, x.lay(5, 0, v), 1, 0);
                Checks.tells("at first", x, x.at(5, 0), 1, v);
                Checks.tells("lay first anew", x, x.lay(5, 0, 3), 1, v);
                Checks.tells("lay last", x, x.lay(5, n - 1, v), 1, n == 1 ? 3 : 0);
                Checks.tells("at last", x, x.at(5, n - 1), 1, v);
                if (n > 1) Checks.tells("the first stays", x, x.at(5, 0), 1, 3);
                if (n > 2) Checks.tells("those between stay", x, x.at(5, n - 2), 1, 0);
            }
        }
    }

    static void placesRefused() {
        int[] sizes = {3, 0, 40};
        for (int k = 0; k < 3; k++) {
            int r = k;
            for (int i : new int[] {-1, sizes[r], sizes[r] + 1, LEAST, MOST}) {
                finds("lay " + i + " of " + sizes[r], Checks.BEYOND, x -> x.lay(r, i, 9));
                finds("at " + i + " of " + sizes[r], Checks.BEYOND, x -> x.at(r, i));
            }
        }
        for (int no : NO_ROWS) {
            for (int i : new int[] {0, -1, 40}) {
                bad("lay of no row " + no, x -> x.lay(no, i, 9));
                bad("at of no row " + no, x -> x.at(no, i));
            }
        }
    }

    static void placesOfMissingRows() {
        for (int i : new int[] {0, -1, 40, LEAST, MOST}) {
            finds("a missing row ahead of its places: lay", Checks.NOTHING, x -> x.lay(3, i, 9));
            finds("a missing row ahead of its places: at", Checks.NOTHING, x -> x.at(5, i));
        }
    }

    static void tear() {
        for (int r = 0; r < 6; r++) {
            ColourCoupons x = new ColourCoupons();
            for (int other = 0; other < 6; other++) x.row(other, other);
            Checks.due("tear " + r, x.tear(r), 1);
            Checks.due("rows", x.count(6), 5);
            for (int other = 0; other < 6; other++) {
                Checks.due("mean of " + other, x.mean(other), other != r && other > 0 ? 1 : Checks.FINDING);
            }
            Checks.due("torn twice", x.tear(r), Checks.FINDING);
            Checks.due("torn twice", x.finding(), Checks.NOTHING);
        }
        finds("tear a missing one", Checks.NOTHING, x -> x.tear(3));
        finds("tear a missing one", Checks.NOTHING, x -> x.tear(5));
        for (int no : NO_ROWS) bad("tear no row " + no, x -> x.tear(no));
        ColourCoupons x = new ColourCoupons();
        x.row(0, 0);
        Checks.due("tear one of none", x.tear(0), 1);
    }

    static void same(ColourCoupons x, int r, int... want) {
        for (int i = 0; i < want.length; i++) Checks.tells("place " + i, x, x.at(r, i), 1, want[i]);
        Checks.due("and no more", x.at(r, want.length), Checks.FINDING);
    }

    static ColourCoupons twoRows() {
        ColourCoupons x = new ColourCoupons();
        Checks.fill(x, 0, 1, 2, 3, 4, 5);
        Checks.fill(x, 1, 7, 8, 9);
        return x;
    }

    static void copyAllowed() {
        ColourCoupons x = twoRows();
        Checks.due("all of the shorter one", x.copy(1, 0, 0, 0, 3), 1);
        same(x, 0, 7, 8, 9, 4, 5);
        same(x, 1, 7, 8, 9);
        x = twoRows();
        Checks.due("up to both ends", x.copy(0, 2, 1, 0, 3), 1);
        same(x, 1, 3, 4, 5);
        same(x, 0, 1, 2, 3, 4, 5);
        x = twoRows();
        Checks.due("the last one", x.copy(0, 4, 1, 2, 1), 1);
        same(x, 1, 7, 8, 5);
        x = twoRows();
        Checks.due("none, from both ends on", x.copy(0, 5, 1, 3, 0), 1);
        Checks.due("none, from the start on", x.copy(0, 0, 1, 0, 0), 1);
        same(x, 0, 1, 2, 3, 4, 5);
        same(x, 1, 7, 8, 9);
        Checks.due("a row of none", x.row(2, 0), 0);
        Checks.due("none of none", x.copy(2, 0, 2, 0, 0), 1);
        x.row(3, 40);
        x.lay(3, 39, 6);
        x.row(4, 40);
        Checks.due("forty", x.copy(3, 0, 4, 0, 40), 1);
        Checks.tells("the last of forty", x, x.at(4, 39), 1, 6);
        Checks.due("copy tells nothing", x.asked(), 6);
    }

    static void copyAsIfTakenAhead() {
        ColourCoupons x = twoRows();
        Checks.due("on by one", x.copy(0, 0, 0, 1, 4), 1);
        same(x, 0, 1, 1, 2, 3, 4);
        x = twoRows();
        Checks.due("back by one", x.copy(0, 1, 0, 0, 4), 1);
        same(x, 0, 2, 3, 4, 5, 5);
        x = twoRows();
        Checks.due("on by two", x.copy(0, 0, 0, 2, 3), 1);
        same(x, 0, 1, 2, 1, 2, 3);
        x = twoRows();
        Checks.due("to where it stands", x.copy(0, 0, 0, 0, 5), 1);
        same(x, 0, 1, 2, 3, 4, 5);
    }

    static void copyBeyond() {
        int[][] places = {{0, 0, 41}, {1, 0, 40}, {0, 1, 40}, {40, 0, 1}, {0, 40, 1}, {41, 0, 0}, {0, 41, 0},
            {-1, 0, 1}, {0, -1, 1}, {-1, 0, 0}, {0, -1, 0}, {LEAST, 0, 1}, {0, LEAST, 1}, {MOST, 0, 1}, {0, MOST, 1},
            {1, 0, MOST}, {0, 1, MOST}, {MOST, 0, MOST}, {0, MOST, MOST}, {0, 0, MOST}};
        for (int[] p : places) {
            finds("copy of forty " + p[0] + ", " + p[1] + ", " + p[2], Checks.BEYOND, x -> x.copy(2, p[0], 2, p[1], p[2]));
        }
        finds("copy more than there are", Checks.BEYOND, x -> x.copy(0, 0, 2, 0, 4));
        finds("copy more than there is room for", Checks.BEYOND, x -> x.copy(2, 0, 0, 0, 4));
        finds("copy from a row of none", Checks.BEYOND, x -> x.copy(1, 0, 0, 0, 1));
        finds("copy to a row of none", Checks.BEYOND, x -> x.copy(0, 0, 1, 0, 1));
    }

    static void copyRefusals() {
        for (int no : NO_ROWS) {
            bad("copy from no row " + no, x -> x.copy(no, 0, 0, 0, 1));
            bad("copy to no row " + no, x -> x.copy(0, 0, no, 0, 1));
        }
        for (int n : new int[] {-1, LEAST}) finds("copy " + n, Checks.SIZE, x -> x.copy(0, 0, 2, 0, n));
        finds("copy from a missing one", Checks.NOTHING, x -> x.copy(3, 0, 0, 0, 1));
        finds("copy to a missing one", Checks.NOTHING, x -> x.copy(0, 0, 3, 0, 1));
        finds("copy none of a missing one", Checks.NOTHING, x -> x.copy(3, 0, 0, 0, 0));
        finds("copy none to a missing one", Checks.NOTHING, x -> x.copy(0, 0, 3, 0, 0));
        finds("copy a missing one to itself", Checks.NOTHING, x -> x.copy(5, 0, 5, 0, 0));
    }

    static void copyOrderOfRefusals() {
        for (int no : NO_ROWS) {
            bad("no row ahead of SIZE", x -> x.copy(no, 0, 0, 0, -1));
            bad("no row ahead of SIZE", x -> x.copy(0, 0, no, 0, -1));
            bad("no row ahead of NOTHING", x -> x.copy(no, 0, 3, 0, 1));
            bad("no row ahead of NOTHING", x -> x.copy(3, 0, no, 0, 1));
            bad("no row ahead of BEYOND", x -> x.copy(no, 0, 0, 9, 1));
            bad("no row ahead of BEYOND", x -> x.copy(0, 9, no, 0, 1));
        }
        finds("SIZE ahead of NOTHING", Checks.SIZE, x -> x.copy(3, 0, 0, 0, -1));
        finds("SIZE ahead of NOTHING", Checks.SIZE, x -> x.copy(0, 0, 3, 0, -1));
        finds("SIZE ahead of BEYOND", Checks.SIZE, x -> x.copy(0, 9, 0, 0, -1));
        finds("SIZE ahead of BEYOND", Checks.SIZE, x -> x.copy(0, 0, 0, -9, -1));
        finds("NOTHING ahead of BEYOND", Checks.NOTHING, x -> x.copy(0, 9, 3, 0, 1));
        finds("NOTHING ahead of BEYOND", Checks.NOTHING, x -> x.copy(3, 0, 0, 9, 1));
    }

    static void mean(int want, int... numbers) {
        ColourCoupons x = new ColourCoupons();
        Checks.fill(x, 3, numbers);
        Checks.tells("mean", x, x.mean(3), 1, want);
    }

    static void meanCut() {
        mean(0, 0);
        mean(1, 1);
        mean(-1, -1);
        mean(0, 0, 1);
        mean(1, 1, 2);
        mean(1, 1, 1, 3);
        mean(2, 1, 1, 4);
        mean(0, 0, -1);
        mean(-1, -1, -2);
        mean(-1, -1, -1, -3);
        mean(-2, -1, -1, -4);
        mean(0, 5, -5);
    }

    static void meanOfTheGreatest() {
        int[] forty = new int[40];
        for (int v : new int[] {MOST, LEAST}) {
            java.util.Arrays.fill(forty, v);
            mean(v, forty);
            mean(v, v, v);
            mean(v, v);
        }
        mean(0, MOST, LEAST);
        mean(0, MOST, LEAST, -1);
        mean(-1, MOST, LEAST, -2);
        mean(MOST - 1, MOST, MOST, MOST - 2);
        mean(MOST - 1, MOST, MOST - 1);
        mean(LEAST + 1, LEAST, LEAST + 1);
    }

    static void meanRefused() {
        finds("mean of none", Checks.NOUGHT, x -> x.mean(1));
        finds("mean of a missing one", Checks.NOTHING, x -> x.mean(3));
        for (int no : NO_ROWS) bad("mean of no row " + no, x -> x.mean(no));
    }

    static void textsAllowed() {
        for (int t = 0; t < 4; t++) {
            for (int n : new int[] {0, 1, 89, 90}) {
                ColourCoupons x = new ColourCoupons();
                Checks.due("text " + t + ", " + n, x.text(t, n), n);
                Checks.due("texts", x.count(7), 1);
                Checks.due("blanks are no town", x.fault(t), n);
                for (int i = 0; i < n; i++) Checks.due("a blank", x.put(t, i, 65), 1032);
                Checks.due("and no more", x.put(t, n, 65), Checks.FINDING);
                Checks.due("and no more", x.finding(), Checks.BEYOND);
            }
        }
    }

    static void textsRefused() {
        for (int no : NO_TEXTS) {
            bad("text of no text " + no, x -> x.text(no, 0));
            bad("text of no text " + no, x -> x.text(no, 90));
            bad("no text ahead of a size below 0", x -> x.text(no, -1));
        }
        for (int n : new int[] {91, 92, MOST}) {
            bad("text of " + n, x -> x.text(0, n));
            bad("missing text of " + n, x -> x.text(3, n));
        }
        for (int n : new int[] {-1, -2, LEAST}) {
            finds("text of " + n, Checks.SIZE, x -> x.text(0, n));
            finds("missing text of " + n, Checks.SIZE, x -> x.text(3, n));
        }
    }

    static void textAnew() {
        ColourCoupons x = new ColourCoupons();
        Checks.write(x, 0, "abcd");
        Checks.due("smaller", x.text(0, 2), 2);
        Checks.due("greater", x.text(0, 4), 4);
        for (int i = 0; i < 4; i++) Checks.due("blank again", x.put(0, i, 65), 1032);
        Checks.due("one text still", x.count(7), 1);
    }

    static void putCut() {
        int[][] cuts = {{0, 0}, {127, 127}, {128, -128}, {129, -127}, {255, -1}, {256, 0}, {257, 1}, {-1, -1}, {-128, -128},
            {-129, 127}, {-256, 0}, {383, 127}, {384, -128}, {MOST, -1}, {LEAST, 0}, {LEAST + 200, -56}};
        ColourCoupons x = new ColourCoupons();
        x.text(3, 1);
        int was = 32;
        for (int[] cut : cuts) {
            Checks.due("put " + cut[0], x.put(3, 0, cut[0]), 1000 + was);
            was = cut[1];
        }
        Checks.due("the last one", x.put(3, 0, 0), 1000 + was);
        Checks.due("put tells nothing", x.asked(), 0);
    }

    static void putPlaces() {
        for (int n : new int[] {1, 2, 90}) {
            ColourCoupons x = new ColourCoupons();
            x.text(0, n);
            Checks.due("put first", x.put(0, 0, 65), 1032);
            Checks.due("put last", x.put(0, n - 1, 66), n == 1 ? 1065 : 1032);
            Checks.due("the first stays", x.put(0, 0, 67), n == 1 ? 1066 : 1065);
        }
    }

    static void putRefused() {
        for (int i : new int[] {-1, Twins.TOWN.length(), LEAST, MOST}) {
            finds("put " + i, Checks.BEYOND, x -> x.put(0, i, 65));
        }
        for (int i : new int[] {0, -1, 1}) finds("put " + i + " of none", Checks.BEYOND, x -> x.put(2, i, 65));
        for (int i : new int[] {0, -1, 90, LEAST, MOST}) {
            finds("a missing text ahead of its places", Checks.NOTHING, x -> x.put(3, i, 65));
        }
        for (int no : NO_TEXTS) {
            for (int i : new int[] {0, -1, 90}) bad("put to no text " + no, x -> x.put(no, i, 65));
        }
    }
}

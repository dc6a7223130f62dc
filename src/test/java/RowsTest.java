/** Promises 1 to 9: a new object, rows, texts. */
public final class RowsTest {
    public static void main(String[] args) {
        newObject();
        row();
        lay();
        tear();
        copy();
        mean();
        text();
        put();
        Checks.end();
    }

    static void newObject() {
        ColourCoupons x = new ColourCoupons();
        for (int i = 0; i <= 10; i++) Checks.due("new count " + i, x.count(i), 0);
        for (int r = 0; r < 6; r++) {
            int row = r;
            Checks.finds("new at", x, Checks.NOTHING, () -> x.at(row, 0));
        }
        for (int t = 0; t < 4; t++) {
            int text = t;
            Checks.finds("new fault", x, Checks.NOTHING, () -> x.fault(text));
        }
        Checks.due("new house", x.house(0, 0), Checks.BAD);
        Checks.due("new colour", x.colour(0, 0), Checks.BAD);
        Checks.due("new asked", x.asked(), 0);
        Checks.due("new upper", x.upper(), 0);
        Checks.due("new lower", x.lower(), 1);
    }

    static void row() {
        ColourCoupons x = new ColourCoupons();
        Checks.due("row 0", x.row(0, 0), 0);
        Checks.due("row 40", x.row(5, 40), 40);
        Checks.due("rows", x.count(6), 2);
        Checks.leaves("row 41", x, Checks.BAD, () -> x.row(0, 41));
        Checks.leaves("row most", x, Checks.BAD, () -> x.row(0, Integer.MAX_VALUE));
        Checks.leaves("row -1", x, Checks.BAD, () -> x.row(-1, 1));
        Checks.leaves("row 6", x, Checks.BAD, () -> x.row(6, 1));
        Checks.leaves("row 6 below", x, Checks.BAD, () -> x.row(6, -1));
        Checks.finds("row below", x, Checks.SIZE, () -> x.row(1, -1));
        Checks.finds("row least", x, Checks.SIZE, () -> x.row(1, Integer.MIN_VALUE));
        Checks.due("rows", x.count(6), 2);
        x.lay(5, 39, 7);
        Checks.due("row anew", x.row(5, 40), 40);
        Checks.tells("at 39", x, x.at(5, 39), 1, 0);
    }

    static void lay() {
        ColourCoupons x = new ColourCoupons();
        Checks.finds("lay missing", x, Checks.NOTHING, () -> x.lay(2, -1, 0));
        x.row(2, 3);
        Checks.tells("lay", x, x.lay(2, 1, Integer.MIN_VALUE), 1, 0);
        Checks.tells("lay again", x, x.lay(2, 1, 9), 1, Integer.MIN_VALUE);
        Checks.tells("at", x, x.at(2, 1), 1, 9);
        Checks.tells("at 0", x, x.at(2, 0), 1, 0);
        Checks.finds("lay 3", x, Checks.BEYOND, () -> x.lay(2, 3, 1));
        Checks.finds("lay -1", x, Checks.BEYOND, () -> x.lay(2, -1, 1));
        Checks.finds("lay most", x, Checks.BEYOND, () -> x.lay(2, Integer.MAX_VALUE, 1));
        Checks.finds("at 3", x, Checks.BEYOND, () -> x.at(2, 3));
        Checks.finds("at -1", x, Checks.BEYOND, () -> x.at(2, -1));
        Checks.leaves("lay 6", x, Checks.BAD, () -> x.lay(6, 0, 1));
        Checks.leaves("lay -1", x, Checks.BAD, () -> x.lay(-1, 0, 1));
        Checks.leaves("at 6", x, Checks.BAD, () -> x.at(6, 0));
        Checks.leaves("at -1", x, Checks.BAD, () -> x.at(-1, 0));
    }

    static void tear() {
        ColourCoupons x = new ColourCoupons();
        Checks.finds("tear missing", x, Checks.NOTHING, () -> x.tear(3));
        x.row(3, 2);
        x.lay(3, 0, 5);
        Checks.due("tear", x.tear(3), 1);
        Checks.due("rows", x.count(6), 0);
        Checks.finds("tear twice", x, Checks.NOTHING, () -> x.tear(3));
        Checks.finds("at torn", x, Checks.NOTHING, () -> x.at(3, 0));
        Checks.leaves("tear 6", x, Checks.BAD, () -> x.tear(6));
        Checks.leaves("tear -1", x, Checks.BAD, () -> x.tear(-1));
        x.row(3, 2);
        Checks.tells("at anew", x, x.at(3, 0), 1, 0);
    }

    static void copy() {
        ColourCoupons x = new ColourCoupons();
        Checks.fill(x, 0, 1, 2, 3, 4, 5);
        Checks.fill(x, 1, 8, 8, 8);
        Checks.due("copy", x.copy(0, 1, 1, 0, 2), 1);
        same(x, 1, 2, 3, 8);
        Checks.due("copy on", x.copy(0, 0, 0, 1, 4), 1);
        same(x, 0, 1, 1, 2, 3, 4);
        Checks.due("copy back", x.copy(0, 2, 0, 0, 3), 1);
        same(x, 0, 2, 3, 4, 3, 4);
        Checks.due("copy none at the end", x.copy(0, 5, 1, 3, 0), 1);
        Checks.finds("copy none beyond", x, Checks.BEYOND, () -> x.copy(0, 6, 1, 0, 0));
        Checks.finds("copy from -1", x, Checks.BEYOND, () -> x.copy(0, -1, 1, 0, 1));
        Checks.finds("copy to -1", x, Checks.BEYOND, () -> x.copy(0, 0, 1, -1, 1));
        Checks.finds("copy too many from", x, Checks.BEYOND, () -> x.copy(1, 1, 0, 0, 3));
        Checks.finds("copy too many to", x, Checks.BEYOND, () -> x.copy(0, 0, 1, 1, 3));
        Checks.finds("copy wrapping", x, Checks.BEYOND, () -> x.copy(0, 2, 1, 0, Integer.MAX_VALUE));
        Checks.finds("copy wrapping to", x, Checks.BEYOND, () -> x.copy(0, 0, 1, Integer.MAX_VALUE, 1));
        Checks.finds("copy below", x, Checks.SIZE, () -> x.copy(0, 0, 5, 0, -1));
        Checks.finds("copy to missing", x, Checks.NOTHING, () -> x.copy(0, -1, 5, 0, 1));
        Checks.finds("copy from missing", x, Checks.NOTHING, () -> x.copy(5, 0, 0, 0, 1));
        Checks.leaves("copy 6", x, Checks.BAD, () -> x.copy(6, 0, 0, 0, -1));
        Checks.leaves("copy to 6", x, Checks.BAD, () -> x.copy(0, 0, 6, 0, 0));
        Checks.leaves("copy to -1", x, Checks.BAD, () -> x.copy(0, 0, -1, 0, 0));
        same(x, 0, 2, 3, 4, 3, 4);
        same(x, 1, 2, 3, 8);
    }

    static void same(ColourCoupons x, int r, int... want) {
        for (int i = 0; i < want.length; i++) Checks.tells("place " + i, x, x.at(r, i), 1, want[i]);
    }

    static void mean() {
        ColourCoupons x = new ColourCoupons();
        Checks.finds("mean missing", x, Checks.NOTHING, () -> x.mean(0));
        x.row(0, 0);
        Checks.finds("mean of none", x, Checks.NOUGHT, () -> x.mean(0));
        Checks.fill(x, 1, 1, 2, 4);
        Checks.tells("mean", x, x.mean(1), 1, 2);
        Checks.fill(x, 1, -7);
        Checks.tells("mean of one", x, x.mean(1), 1, -7);
        Checks.fill(x, 1, -1, -2, -5);
        Checks.tells("mean below 0", x, x.mean(1), 1, -2);
        Checks.fill(x, 1, -1, 0);
        Checks.tells("mean cut to 0", x, x.mean(1), 1, 0);
        Checks.fill(x, 1, Integer.MAX_VALUE, Integer.MAX_VALUE, Integer.MAX_VALUE);
        Checks.tells("mean of most", x, x.mean(1), 1, Integer.MAX_VALUE);
        Checks.fill(x, 1, Integer.MIN_VALUE, Integer.MIN_VALUE);
        Checks.tells("mean of least", x, x.mean(1), 1, Integer.MIN_VALUE);
        Checks.leaves("mean 6", x, Checks.BAD, () -> x.mean(6));
        Checks.leaves("mean -1", x, Checks.BAD, () -> x.mean(-1));
    }

    static void text() {
        ColourCoupons x = new ColourCoupons();
        Checks.due("text 90", x.text(3, 90), 90);
        Checks.due("text 0", x.text(0, 0), 0);
        Checks.due("texts", x.count(7), 2);
        Checks.due("put last", x.put(3, 89, 65), 1032);
        Checks.due("text anew", x.text(3, 90), 90);
        Checks.due("put anew", x.put(3, 89, 65), 1032);
        Checks.leaves("text 91", x, Checks.BAD, () -> x.text(0, 91));
        Checks.leaves("text 4", x, Checks.BAD, () -> x.text(4, 1));
        Checks.leaves("text -1", x, Checks.BAD, () -> x.text(-1, -1));
        Checks.finds("text below", x, Checks.SIZE, () -> x.text(0, -1));
    }

    static void put() {
        ColourCoupons x = new ColourCoupons();
        Checks.finds("put missing", x, Checks.NOTHING, () -> x.put(1, -1, 1));
        x.text(1, 2);
        Checks.due("put", x.put(1, 0, 255), 1032);
        Checks.due("put cut", x.put(1, 0, 128), 999);
        Checks.due("put cut", x.put(1, 0, 256 + 65), 872);
        Checks.due("put cut", x.put(1, 0, Integer.MIN_VALUE), 1065);
        Checks.due("put cut", x.put(1, 0, 1), 1000);
        Checks.finds("put 2", x, Checks.BEYOND, () -> x.put(1, 2, 1));
        Checks.finds("put -1", x, Checks.BEYOND, () -> x.put(1, -1, 1));
        Checks.leaves("put 4", x, Checks.BAD, () -> x.put(4, 0, 1));
        Checks.leaves("put -1", x, Checks.BAD, () -> x.put(-1, 0, 1));
    }
}

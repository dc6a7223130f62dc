/** Promises 31 to 34: words, kinds, monthly coupons, when to look. */
public final class GuessTest {
    public static void main(String[] args) {
        word();
        wordRefused();
        kinds();
        kindsRefused();
        monthly();
        test();
        testLater();
        Checks.end();
    }

    static int[] letters(String word) {
        int[] numbers = new int[word.length()];
        for (int i = 0; i < numbers.length; i++) numbers[i] = word.charAt(i) - 'a';
        return numbers;
    }

    static void stands(ColourCoupons x, String word, int want, int is) {
        Checks.fill(x, 3, letters(word));
        Checks.tells("word " + word, x, x.word(3), want, is);
    }

    static void word() {
        ColourCoupons x = Checks.townOf("red24;blue12;redder55;ba33;zzzzzzz11;H5;S3;");
        stands(x, "ba", 0, 1);
        stands(x, "baa", 0, 0);
        stands(x, "blue", 1, 1);
        stands(x, "bluf", 1, 0);
        stands(x, "re", 1, 0);
        stands(x, "red", 2, 1);
        stands(x, "redd", 2, 0);
        stands(x, "redder", 3, 1);
        stands(x, "reddes", 3, 0);
        stands(x, "z", 3, 0);
        stands(x, "zzzzzzz", 4, 1);
        Checks.fill(x, 3, letters("b"));
        Checks.leaves("ahead of all", x, Checks.NONE, () -> x.word(3));
        Checks.fill(x, 3, letters("az"));
        Checks.leaves("ahead of all", x, Checks.NONE, () -> x.word(3));
    }

    static void wordRefused() {
        ColourCoupons x = new ColourCoupons();
        Checks.leaves("row 6", x, Checks.BAD, () -> x.word(6));
        Checks.leaves("row -1", x, Checks.BAD, () -> x.word(-1));
        Checks.finds("no row", x, Checks.NOTHING, () -> x.word(0));
        x.row(0, 0);
        Checks.finds("none", x, Checks.SIZE, () -> x.word(0));
        Checks.fill(x, 0, 26, 0, 0, 0, 0, 0, 0, 0);
        Checks.finds("eight", x, Checks.SIZE, () -> x.word(0));
        Checks.fill(x, 0, 0, 0, 26);
        Checks.finds("26", x, Checks.UNLIKE, () -> x.word(0));
        Checks.fill(x, 0, -1);
        Checks.finds("-1", x, Checks.UNLIKE, () -> x.word(0));
        Checks.fill(x, 0, 25);
        Checks.leaves("no colours", x, Checks.NONE, () -> x.word(0));
    }

    static void kinds() {
        ColourCoupons x = Checks.townOf("a11;b55;H5;W9;");
        Checks.fill(x, 0, 5);
        Checks.due("as a house", x.kinds(0, 0), 1 + 4 + 8);
        Checks.fill(x, 0, 10, 15);
        Checks.due("as a saver", x.kinds(0, 0), 2);
        Checks.fill(x, 0, 11, 18);
        Checks.due("as a miser", x.kinds(0, 0), 16);
        Checks.fill(x, 0, 7, 8, 9, 9);
        Checks.due("as a widow", x.kinds(0, 0), 32);
        Checks.fill(x, 0, 7, 9);
        Checks.due("as none", x.kinds(0, 0), 0);
        x.buy(0, 0);
        Checks.fill(x, 0, 9);
        Checks.due("saver, miser", x.kinds(0, 0), 2 + 16);
        x.lend(0, 1, 4);
        Checks.fill(x, 0, 5);
        Checks.due("all", x.kinds(0, 0), 63);
        Checks.fill(x, 0, 5, 10);
        Checks.due("saver", x.kinds(0, 0), 2);
        Checks.fill(x, 0, 5, 11);
        Checks.due("miser", x.kinds(0, 0), 16);
        int[] long20 = new int[20];
        for (int i = 0; i < 20; i++) long20[i] = 9;
        Checks.fill(x, 0, long20);
        Checks.due("twenty", x.kinds(1, 0), 1 + 4 + 8);
    }

    static void kindsRefused() {
        ColourCoupons x = Checks.townOf("a11;b55;H5;W9;");
        Checks.leaves("house 2", x, Checks.BAD, () -> x.kinds(2, 0));
        Checks.leaves("house -1", x, Checks.BAD, () -> x.monthly(-1, 0));
        Checks.leaves("house 2", x, Checks.BAD, () -> x.monthly(2, 0));
        Checks.leaves("house 2", x, Checks.BAD, () -> x.test(2, 0));
        Checks.leaves("row 6", x, Checks.BAD, () -> x.kinds(0, 6));
        Checks.leaves("row 6", x, Checks.BAD, () -> x.monthly(0, 6));
        Checks.leaves("row -1", x, Checks.BAD, () -> x.test(0, -1));
        Checks.finds("no row", x, Checks.NOTHING, () -> x.kinds(0, 0));
        Checks.finds("no row", x, Checks.NOTHING, () -> x.monthly(0, 0));
        Checks.finds("no row", x, Checks.NOTHING, () -> x.test(0, 0));
        for (int n = 0; n <= 21; n += 21) {
            x.row(0, n);
            x.lay(0, 0, 100);
            Checks.finds("size " + n, x, Checks.SIZE, () -> x.kinds(0, 0));
            Checks.finds("size " + n, x, Checks.SIZE, () -> x.monthly(0, 0));
            Checks.finds("size " + n, x, Checks.SIZE, () -> x.test(0, 0));
        }
        for (int v = -1; v <= 100; v += 101) {
            Checks.fill(x, 0, 0, v);
            Checks.finds("number " + v, x, Checks.UNLIKE, () -> x.kinds(0, 0));
            Checks.finds("number " + v, x, Checks.UNLIKE, () -> x.monthly(0, 0));
            Checks.finds("number " + v, x, Checks.UNLIKE, () -> x.test(0, 0));
        }
        Checks.fill(x, 0, 0, 99);
        Checks.due("99", x.kinds(0, 0), 0);
    }

    static void monthly() {
        ColourCoupons x = Checks.townOf("a11;b55;H5;S9;W9;I8;");
        Checks.fill(x, 0, 0);
        Checks.due("house", x.monthly(0, 0), 1);
        Checks.fill(x, 0, 9, 9);
        Checks.due("house", x.monthly(0, 0), 512);
        Checks.fill(x, 0, 10);
        Checks.due("house", x.monthly(0, 0), 0);
        Checks.due("saver", x.monthly(1, 0), 2);
        Checks.due("widow", x.monthly(2, 0), 64);
        Checks.due("miser", x.monthly(3, 0), 2);
        Checks.fill(x, 0, 10, 12);
        Checks.due("saver", x.monthly(1, 0), 0);
        Checks.due("miser", x.monthly(3, 0), 0);
        Checks.fill(x, 0, 10, 13);
        Checks.due("miser", x.monthly(3, 0), 2);
        for (int i = 0; i < 10; i++) x.month();
        Checks.fill(x, 0, 99);
        Checks.due("any, 99 at most", x.monthly(1, 0), 1023);
        ColourCoupons y = Checks.townOf("a11;S9;S9;");
        for (int i = 0; i < 9; i++) y.month();
        Checks.due("purse", y.later(0, 0), 90);
        y.lend(0, 1, 9);
        Checks.due("99", y.later(1, 0), 99);
        y.lend(1, 0, 5);
        Checks.fill(y, 0, 99);
        Checks.due("from 94 on", y.monthly(1, 0), 32 + 64 + 128 + 256 + 512);
    }

    static void test() {
        ColourCoupons x = Checks.townOf("a11;b55;H5;W0;");
        Checks.fill(x, 0, 5);
        Checks.tells("three alike for ever", x, x.test(0, 0), 1, 3);
        Checks.fill(x, 0, 10);
        Checks.tells("one", x, x.test(0, 0), 1, 1);
        Checks.fill(x, 0, 99);
        Checks.leaves("none", x, Checks.NONE, () -> x.test(0, 0));
        Checks.fill(x, 0, 0);
        Checks.tells("all of an empty purse", x, x.test(1, 0), 1, 6);
    }

    static void testLater() {
        ColourCoupons x = Checks.townOf("a11;b55;H5;H1;");
        x.lend(0, 1, 5);
        Checks.fill(x, 0, 5);
        Checks.due("all", x.kinds(0, 0), 63);
        // behind 2: 5 5 5, 10, 11, 7
        Checks.tells("told apart behind 2", x, x.test(0, 0), 2, 3);
        ColourCoupons y = Checks.townOf("a11;H2;H1;");
        y.lend(0, 1, 1);
        Checks.fill(y, 0, 3);
        // saver, miser: 3 3, 5 5, 7 8
        Checks.due("two", y.kinds(0, 0), 2 + 16);
        Checks.tells("told apart behind 3", y, y.test(0, 0), 3, 1);
    }
}

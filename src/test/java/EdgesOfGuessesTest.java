/** Promises 31 to 34 at their edges: words, kinds, monthly coupons, when to look. */
public final class EdgesOfGuessesTest {
    private static final int LEAST = Integer.MIN_VALUE, MOST = Integer.MAX_VALUE;
    private static final int NONE = Checks.NONE;
    private static final int[] NO_ROWS = {-1, 6, LEAST, MOST};
    private static final int[] NO_HOUSES = {-1, 4, LEAST, MOST};

    public static void main(String[] args) {
        wordSizes();
        wordNumbers();
        wordStands();
        wordAheadOfAll();
        wordOfEight();
        wordOrderOfRefusals();
        seenSizes();
        seenNumbers();
        seenOrderOfRefusals();
        kindsApart();
        kindsOfTwenty();
        kindsAtNinetyNine();
        monthlyEach();
        monthlyAtNinetyNine();
        testFirst();
        testNone();
        testOfTwenty();
        testMonths();
        Checks.end();
    }

    interface Ask {
        int of(ColourCoupons x, int h, int r);
    }

    /** kinds(), monthly(), test(): they refuse alike. */
    static final Ask[] ASKS = {ColourCoupons::kinds, ColourCoupons::monthly, ColourCoupons::test};

    static int[] letters(String word) {
        int[] numbers = new int[word.length()];
        for (int i = 0; i < numbers.length; i++) numbers[i] = word.charAt(i) - 'a';
        return numbers;
    }

    static void busyWith(ColourCoupons x, int... numbers) {
        Twins.busy(x);
        Checks.fill(x, 5, numbers);
    }

    static void wordSizes() {
        ColourCoupons x = Checks.townOf("a11;aaaaaaa11;H1;H1;");
        for (int n = 1; n <= 7; n++) {
            x.row(0, n);
            Checks.tells("word of " + n, x, x.word(0), n == 7 ? 1 : 0, n == 1 || n == 7 ? 1 : 0);
        }
        Twins.finds("a word of none", Twins::busy, Checks.SIZE, y -> y.word(1));
        Twins.finds("a word of eight", y -> busyWith(y, 0, 0, 0, 0, 0, 0, 0, 0), Checks.SIZE, y -> y.word(5));
        Twins.finds("a word of forty", Twins::busy, Checks.SIZE, y -> y.word(2));
    }

    static void wordNumbers() {
        ColourCoupons x = Checks.townOf("a11;z11;H1;H1;");
        Checks.fill(x, 0, 0);
        Checks.tells("a", x, x.word(0), 0, 1);
        Checks.fill(x, 0, 25);
        Checks.tells("z", x, x.word(0), 1, 1);
        for (int v : new int[] {-1, 26, LEAST, MOST}) {
            Twins.finds("first letter " + v, y -> busyWith(y, v, 0, 0), Checks.UNLIKE, y -> y.word(5));
            Twins.finds("last letter " + v, y -> busyWith(y, 0, 0, 0, 0, 0, 0, v), Checks.UNLIKE, y -> y.word(5));
            Twins.finds("the letter " + v, y -> busyWith(y, v), Checks.UNLIKE, y -> y.word(5));
        }
    }

    static void stands(ColourCoupons x, String word, int want, int is) {
        Checks.fill(x, 3, letters(word));
        if (want != NONE) Checks.tells("word " + word, x, x.word(3), want, is);
        else Checks.leaves("word " + word, x, NONE, () -> x.word(3));
    }

    static void wordStands() {
        ColourCoupons x = Checks.townOf("b11;bb11;bbb11;c11;H1;H1;");
        stands(x, "a", NONE, 0);
        stands(x, "azzzzzz", NONE, 0);
        stands(x, "b", 0, 1);
        stands(x, "ba", 0, 0);
        stands(x, "bazzzzz", 0, 0);
        stands(x, "bb", 1, 1);
        stands(x, "bba", 1, 0);
        stands(x, "bbb", 2, 1);
        stands(x, "bbba", 2, 0);
        stands(x, "bc", 2, 0);
        stands(x, "bzzzzzz", 2, 0);
        stands(x, "c", 3, 1);
        stands(x, "caaaaaa", 3, 0);
        stands(x, "zzzzzzz", 3, 0);
    }

    static void wordAheadOfAll() {
        Twins.leaves("no colours", x -> {
            Twins.bare(x);
            x.row(5, 1);
        }, NONE, x -> x.word(5));
        ColourCoupons x = Checks.townOf("bb11;H1;H1;");
        stands(x, "b", NONE, 0);
        stands(x, "ba", NONE, 0);
        stands(x, "bazzzzz", NONE, 0);
        stands(x, "bb", 0, 1);
        stands(x, "bba", 0, 0);
    }

    static void wordOfEight() {
        ColourCoupons x = Checks.townOf("a11;c11;e11;g11;i11;k11;m11;o11;H1;H1;");
        for (int v = 0; v < 26; v++) {
            Checks.fill(x, 0, v);
            Checks.tells("letter " + v, x, x.word(0), Math.min(7, v / 2), v % 2 == 0 && v < 16 ? 1 : 0);
        }
    }

    static void wordOrderOfRefusals() {
        for (int no : NO_ROWS) Twins.leaves("word of no row " + no, Twins::busy, Checks.BAD, x -> x.word(no));
        Twins.finds("a missing row", Twins::busy, Checks.NOTHING, x -> x.word(3));
        Twins.finds("SIZE ahead of UNLIKE", x -> busyWith(x, 26, 0, 0, 0, 0, 0, 0, 0), Checks.SIZE, x -> x.word(5));
        Twins.finds("SIZE ahead of UNLIKE", x -> busyWith(x, 0, 0, 0, 0, 0, 0, 0, -1), Checks.SIZE, x -> x.word(5));
        Twins.finds("UNLIKE, no town", Twins::bare, Checks.UNLIKE, x -> x.word(4));
        Twins.finds("SIZE, no town", Twins::bare, Checks.SIZE, x -> x.word(1));
        Twins.finds("NOTHING, no town", Twins::bare, Checks.NOTHING, x -> x.word(3));
    }

    static void seenSizes() {
        for (Ask ask : ASKS) {
            ColourCoupons x = Checks.townOf("a11;S0;H1;");
            for (int n = 1; n <= 20; n++) {
                x.row(0, n);
                Checks.due("of " + n, ask.of(x, 0, 0) > 0 ? 1 : 0, 1);
            }
            Twins.finds("of none", Twins::busy, Checks.SIZE, y -> ask.of(y, 0, 1));
            Twins.finds("of twenty-one", y -> {
                Twins.busy(y);
                y.row(5, 21);
            }, Checks.SIZE, y -> ask.of(y, 0, 5));
            Twins.finds("of forty", Twins::busy, Checks.SIZE, y -> ask.of(y, 0, 2));
        }
    }

    static void seenNumbers() {
        for (Ask ask : ASKS) {
            for (int v : new int[] {-1, 100, LEAST, MOST}) {
                Twins.finds("first " + v, y -> busyWith(y, v, 5), Checks.UNLIKE, y -> ask.of(y, 0, 5));
                Twins.finds("last " + v, y -> busyWith(y, 5, 5, v), Checks.UNLIKE, y -> ask.of(y, 0, 5));
                Twins.finds("behind what can't be " + v, y -> busyWith(y, 98, v), Checks.UNLIKE, y -> ask.of(y, 0, 5));
            }
            for (int v : new int[] {0, 99}) {
                ColourCoupons x = Twins.made(y -> busyWith(y, v));
                Checks.due("number " + v, ask.of(x, 0, 5), ask == ASKS[0] ? 0 : ask == ASKS[1] ? (v == 0 ? 1 : 0) : NONE);
            }
        }
    }

    static void seenOrderOfRefusals() {
        for (Ask ask : ASKS) {
            for (int no : NO_HOUSES) {
                Twins.leaves("no house " + no, Twins::busy, Checks.BAD, x -> ask.of(x, no, 4));
                Twins.leaves("no house ahead of NOTHING", Twins::busy, Checks.BAD, x -> ask.of(x, no, 3));
                Twins.leaves("no house ahead of SIZE", Twins::busy, Checks.BAD, x -> ask.of(x, no, 1));
                Twins.leaves("no house ahead of UNLIKE", x -> busyWith(x, 100), Checks.BAD, x -> ask.of(x, no, 5));
                Twins.leaves("neither", Twins::busy, Checks.BAD, x -> ask.of(x, no, 6));
            }
            for (int no : NO_ROWS) Twins.leaves("no row " + no, Twins::busy, Checks.BAD, x -> ask.of(x, 0, no));
            Twins.leaves("no town", Twins::bare, Checks.BAD, x -> ask.of(x, 0, 4));
            Twins.finds("a missing row", Twins::busy, Checks.NOTHING, x -> ask.of(x, 0, 3));
            Twins.finds("SIZE ahead of UNLIKE", x -> {
                Twins.busy(x);
                x.row(5, 21);
                x.lay(5, 0, 100);
            }, Checks.SIZE, x -> ask.of(x, 0, 5));
            Twins.finds("SIZE ahead of UNLIKE", x -> {
                Twins.busy(x);
                x.row(5, 21);
                x.lay(5, 20, -1);
            }, Checks.SIZE, x -> ask.of(x, 0, 5));
        }
    }

    static void kindsApart() {
        ColourCoupons x = Checks.townOf("a11;H5;W5;M5;");
        for (int h = 0; h < 3; h++) {
            // of 5, 5 a month: house, mourner, blind 5; saver 10; miser 11; widow 7
            int[][] seen = {{5, 13}, {10, 2}, {11, 16}, {7, 32}, {4, 0}, {6, 0}, {9, 0}, {12, 0}, {0, 0}, {99, 0}};
            for (int[] s : seen) {
                Checks.fill(x, 0, s[0]);
                Checks.due("seen " + s[0], x.kinds(h, 0), s[1]);
            }
        }
        Checks.due("kinds tells nothing but what lay() told", x.asked(), 0);
        Checks.fill(x, 0, 10, 15);
        Checks.due("saver still", x.kinds(0, 0), 2);
        Checks.fill(x, 0, 10, 16);
        Checks.due("no longer", x.kinds(0, 0), 0);
        Checks.fill(x, 0, 9, 15);
        Checks.due("not at first", x.kinds(0, 0), 0);
    }

    static void kindsOfTwenty() {
        ColourCoupons x = Checks.townOf("a11;H3;W3;");
        int[] same = new int[20];
        java.util.Arrays.fill(same, 3);
        Checks.fill(x, 0, same);
        Checks.due("house, mourner, blind", x.kinds(0, 0), 13);
        Checks.due("monthly", x.monthly(0, 0), 8);
        x.lay(0, 19, 4);
        Checks.due("all but the last", x.kinds(0, 0), 0);
        Checks.due("all but the last", x.monthly(0, 0), 0);
        Checks.leaves("all but the last", x, NONE, () -> x.test(0, 0));
        int[] saved = new int[20];
        for (int i = 0; i < 20; i++) saved[i] = 3 + 3 * (i + 1);
        Checks.fill(x, 0, saved);
        Checks.due("saver", x.kinds(0, 0), 2);
        x.lay(0, 19, 62);
        Checks.due("all but the last", x.kinds(0, 0), 0);
    }

    static void kindsAtNinetyNine() {
        ColourCoupons x = Checks.townOf("a11;S9;I9;");
        for (int i = 0; i < 10; i++) x.month();
        int[] same = new int[20];
        java.util.Arrays.fill(same, 99);
        Checks.fill(x, 0, same);
        Checks.due("saver, miser", x.kinds(0, 0), 2 + 16);
        Checks.due("saver, miser", x.kinds(1, 0), 2 + 16);
        Checks.tells("never apart", x, x.test(0, 0), 1, 2);
    }

    static void monthlyEach() {
        for (int gets = 0; gets <= 9; gets++) {
            ColourCoupons x = Checks.townOf("a11;H4;S4;M4;B4;I5;W5;");
            int[] purse = {0, 4, 0, 0, 6, 2};
            for (int h = 0; h < 6; h++) {
                Checks.fill(x, 0, purse[h] + gets);
                Checks.due("gets " + gets + ", house " + h, x.monthly(h, 0), 1 << gets);
            }
        }
        ColourCoupons x = Checks.townOf("a11;H4;S4;M4;B4;I5;W5;");
        int[] purse = {0, 4, 0, 0, 6, 2};
        for (int h = 0; h < 6; h++) {
            Checks.fill(x, 0, purse[h] + 10);
            Checks.due("ten", x.monthly(h, 0), 0);
            if (purse[h] > 0) Checks.fill(x, 0, purse[h] - 1);
            Checks.due("below none", x.monthly(h, 0), 0);
        }
    }

    static void monthlyAtNinetyNine() {
        ColourCoupons x = Checks.townOf("a11;S9;H9;H9;");
        for (int i = 0; i < 9; i++) x.month();
        Checks.fill(x, 0, 99);
        Checks.due("90", x.monthly(0, 0), 512);
        x.lend(1, 0, 1);
        Checks.due("91", x.monthly(0, 0), 512 + 256);
        x.lend(1, 0, 8);
        Checks.due("99", x.monthly(0, 0), 1023);
        Checks.fill(x, 0, 98);
        Checks.due("never less", x.monthly(0, 0), 0);
        x.lend(0, 1, 1);
        Checks.due("98", x.monthly(0, 0), 1);
        Checks.fill(x, 0, 99);
        Checks.due("98", x.monthly(0, 0), 1022);
        Checks.fill(x, 0, 98, 98);
        Checks.due("98 twice", x.monthly(0, 0), 1);
        Checks.fill(x, 0, 98, 99);
        Checks.due("98, then 99", x.monthly(0, 0), 0);
    }

    static void testFirst() {
        ColourCoupons x = Checks.townOf("a11;H5;W0;H1;");
        Checks.fill(x, 0, 5);
        Checks.tells("three that are alike for ever", x, x.test(0, 0), 1, 3);
        Checks.fill(x, 0, 11);
        Checks.tells("one kind", x, x.test(0, 0), 1, 1);
        Checks.fill(x, 0, 0);
        Checks.tells("six of nothing", x, x.test(1, 0), 1, 6);
        Checks.fill(x, 0, 1);
        // of 1, 1 a month: house, mourner, blind, widow 1; these are alike for ever
        Checks.due("four", x.kinds(2, 0), 1 + 4 + 8 + 32);
        Checks.tells("four", x, x.test(2, 0), 1, 4);
    }

    static void testNone() {
        Twins.leaves("no kind", x -> busyWith(x, 98), NONE, x -> x.test(0, 5));
        Twins.leaves("no kind at last", x -> busyWith(x, 5, 5, 6), NONE, x -> x.test(0, 5));
        Checks.due("a kind", Twins.made(x -> busyWith(x, 5)).test(0, 5), 1);
    }

    static void testOfTwenty() {
        ColourCoupons x = Checks.townOf("a11;H0;H1;");
        x.row(0, 20);
        Checks.due("all", x.kinds(0, 0), 63);
        Checks.tells("never apart", x, x.test(0, 0), 1, 6);
    }

    static void testMonths() {
        // of 0, 1 a month: all 1; then 1 1 1, 2 2, 1; then .. till a miser has 5 and a fifth: 1 2 3 4 5, 6 or 5
        ColourCoupons x = Checks.townOf("a11;H1;H8;");
        x.lend(0, 1, 1);
        Checks.fill(x, 0, 1);
        Checks.due("all", x.kinds(0, 0), 63);
        Checks.tells("savers apart from the others behind 2", x, x.test(0, 0), 2, 4);
        Checks.fill(x, 0, 1, 2);
        Checks.due("saver, miser", x.kinds(0, 0), 2 + 16);
        Checks.tells("apart behind 6", x, x.test(0, 0), 6, 1);
        Checks.fill(x, 0, 1, 2, 3, 4, 5);
        Checks.tells("apart behind 6", x, x.test(0, 0), 6, 1);
        Checks.fill(x, 0, 1, 2, 3, 4, 5, 6);
        Checks.tells("told apart already", x, x.test(0, 0), 1, 1);
        // of 0, 5 a month: all 5; then 5 5 5, 10, 11, 7: a part of three is the least, first behind 2
        ColourCoupons y = Checks.townOf("a11;H5;H1;");
        y.lend(0, 1, 5);
        Checks.fill(y, 0, 5);
        Checks.tells("the first of the best", y, y.test(0, 0), 2, 3);
    }
}

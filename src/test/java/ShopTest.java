/** Promises 29, 30, 35: shopping by orders, the best of them, giving and taking by turns. */
public final class ShopTest {
    public static void main(String[] args) {
        shop();
        shopByKinds();
        best();
        duel();
        duelAtTheEdges();
        Checks.end();
    }

    static void shop() {
        ColourCoupons x = Checks.townOf("a42;b51;c29;d22;e39;H9;H3;");
        long before = x.digest();
        Checks.tells("by numbers", x, x.shop(0, 0), 3, 0);
        Checks.tells("least first", x, x.shop(0, 1), 4 + 8 + 16, 2);
        Checks.tells("most first", x, x.shop(0, 2), 3, 0);
        Checks.tells("months for coupons", x, x.shop(0, 3), 4 + 16 + 8, 2);
        Checks.tells("few coupons", x, x.shop(1, 0), 4, 1);
        Checks.tells("few coupons", x, x.shop(1, 2), 16, 0);
        Checks.tells("of like ones the lowest", x, x.shop(1, 1), 4, 1);
        Checks.due("nothing is done", x.digest(), before);
        x.buy(0, 2);
        Checks.tells("what it has not", x, x.shop(0, 1), 8 + 16, 2);
        Checks.leaves("order 4", x, Checks.BAD, () -> x.shop(0, 4));
        Checks.leaves("order -1", x, Checks.BAD, () -> x.shop(0, -1));
        Checks.leaves("house 2", x, Checks.BAD, () -> x.shop(2, 0));
        Checks.leaves("house -1", x, Checks.BAD, () -> x.shop(-1, 0));
    }

    static void shopByKinds() {
        // a: house 2 of 1, blind 3 of 1; b: house 6 of 3, blind 7 of 2; widow 4 of 2, 8 of 6
        ColourCoupons x = Checks.townOf("a12;b36;H3;B2;W6;H1;");
        Checks.tells("like fractions: the lowest", x, x.shop(0, 3), 1, 2);
        Checks.tells("blind", x, x.shop(1, 3), 2, 0);
        Checks.tells("widow", x, x.shop(2, 3), 1, 4);
        Checks.tells("widow, most first", x, x.shop(2, 2), 2, 0);
        Checks.tells("on to what it can pay", x, x.shop(3, 2), 1, 0);
        ColourCoupons z = Checks.townOf("a52;b52;H9;H4;");
        Checks.tells("most first: of like ones the lowest", z, z.shop(0, 2), 1, 4);
        ColourCoupons y = Checks.townOf("a97;b65;H9;H9;");
        Checks.tells("5 of 6 is more than 7 of 9", y, y.shop(0, 3), 2, 3);
    }

    static void best() {
        ColourCoupons x = Checks.townOf("a42;b51;c29;d22;e39;H9;H0;M4;");
        Checks.tells("least first", x, x.best(0), 1, 3);
        Checks.tells("none", x, x.best(1), 0, 0);
        Checks.tells("one by any", x, x.best(2), 0, 1);
        Checks.leaves("house 3", x, Checks.BAD, () -> x.best(3));
        Checks.leaves("house -1", x, Checks.BAD, () -> x.best(-1));
    }

    static void duel() {
        ColourCoupons none = new ColourCoupons();
        Checks.leaves("no houses", none, Checks.STATE, () -> none.duel(0));
        Checks.leaves("bad ahead", none, Checks.BAD, () -> none.duel(4));
        ColourCoupons x = Checks.townOf("a31;b41;H2;H6;H3;");
        long before = x.digest();
        Checks.due("0", x.duel(0), 2);
        Checks.due("1", x.duel(1), 3);
        Checks.due("2", x.duel(2), 2);
        Checks.due("3", x.duel(3), 3);
        Checks.due("nothing is done", x.digest(), before);
        Checks.leaves("4", x, Checks.BAD, () -> x.duel(4));
        Checks.leaves("-1", x, Checks.BAD, () -> x.duel(-1));
    }

    static void duelAtTheEdges() {
        ColourCoupons x = Checks.townOf("a11;b12;H0;H0;");
        Checks.due("0", x.duel(0), 0);
        Checks.due("1", x.duel(1), 1);
        Checks.due("2: what was given is taken", x.duel(2), 0);
        Checks.due("3", x.duel(3), 1);
        ColourCoupons z = Checks.townOf("a44;b77;H3;H4;H6;H7;H8;H9;");
        // 3 gets none, 4 6 7 8 9 one each: giving to the first makes six; one may be taken again
        Checks.due("six houses", z.duel(0), 5);
        Checks.due("six houses", z.duel(1), 6);
        Checks.due("six houses", z.duel(2), 5);
        Checks.due("six houses", z.duel(3), 6);
        ColourCoupons w = Checks.townOf("a44;b77;M9;M9;B9;W9;S9;I8;");
        Checks.due("kinds", w.duel(0), 7);
        Checks.due("kinds", w.duel(1), 7);
        Checks.due("the blind one is given what would be taken", w.duel(2), 7);
        Checks.due("kinds", w.duel(3), 7);
        ColourCoupons y = Checks.townOf("a22;H1;H3;");
        Checks.due("1", y.duel(1), 2);
        Checks.due("2: one more than needed is no help", y.duel(2), 1);
        y.buy(1, 0);
        Checks.due("what it has it does not get", y.duel(0), 0);
        Checks.due("1", y.duel(1), 1);
        Checks.due("3", y.duel(3), 1);
    }
}

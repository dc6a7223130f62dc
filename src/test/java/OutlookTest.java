/** Promises 24 to 28: what fades next, what fades, purses later, paying for a colour, for a feast. */
public final class OutlookTest {
    public static void main(String[] args) {
        next();
        fades();
        later();
        soon();
        feast();
        feastFarAhead();
        feastOfThings();
        Checks.end();
    }

    static void next() {
        ColourCoupons none = new ColourCoupons();
        Checks.leaves("no town", none, Checks.NONE, () -> none.next());
        ColourCoupons x = Checks.townOf("a15;b13;c13;H9;B9;H9;");
        Checks.leaves("no things", x, Checks.NONE, () -> x.next());
        x.buy(2, 1);
        Checks.tells("one", x, x.next(), 21, 3);
        x.buy(1, 1);
        Checks.tells("a later one", x, x.next(), 21, 3);
        x.buy(0, 2);
        Checks.tells("the lower house", x, x.next(), 2, 3);
        x.buy(0, 1);
        Checks.tells("the lower colour", x, x.next(), 1, 3);
        x.buy(0, 0);
        Checks.tells("a later one of a lower number", x, x.next(), 1, 3);
        x.month();
        x.month();
        x.month();
        Checks.tells("what is left", x, x.next(), 11, 4);
    }

    static void fades() {
        ColourCoupons none = new ColourCoupons();
        Checks.tells("no town", none, none.fades(60), 0, Checks.NONE);
        ColourCoupons x = Checks.townOf("a15;b13;c13;H9;B9;H9;");
        x.month();
        x.buy(0, 1);
        x.buy(0, 2);
        x.buy(1, 0);
        x.buy(2, 1);
        x.buy(2, 0);
        Checks.tells("0", x, x.fades(0), 0, Checks.NONE);
        Checks.tells("2", x, x.fades(2), 0, Checks.NONE);
        Checks.tells("3", x, x.fades(3), 3, 21);
        Checks.tells("5", x, x.fades(5), 4, 20);
        Checks.tells("6", x, x.fades(6), 5, 10);
        Checks.tells("60", x, x.fades(60), 5, 10);
        Checks.leaves("61", x, Checks.BAD, () -> x.fades(61));
        Checks.leaves("-1", x, Checks.BAD, () -> x.fades(-1));
        x.undo(3);
        Checks.tells("the last colour of one house", x, x.fades(3), 2, 2);
        x.undo(0);
        x.buy(0, 0);
        Checks.tells("the first of all", x, x.next(), 0, 5);
        Checks.tells("the first of all", x, x.fades(5), 1, 0);
        x.buy(0, 1);
        Checks.tells("a later one of a lower number", x, x.fades(5), 2, 0);
        Checks.tells("an earlier one of a higher number", x, x.next(), 1, 3);
        Checks.due("2 months beyond", x.fades(2), 0);
    }

    static void later() {
        ColourCoupons x = Checks.townOf("a59;H9;S7;M6;B8;I6;W9;");
        x.buy(0, 0);
        long before = x.digest();
        Checks.tells("now", x, x.later(0, 0), 4, 40);
        Checks.tells("in a month", x, x.later(0, 1), 9, 9 + 14 + 6 + 8 + 13 + 13);
        Checks.tells("saver", x, x.later(1, 2), 21, 9 + 21 + 6 + 8 + 21 + 15);
        Checks.tells("saver, 99 at most", x, x.later(1, 60), 99, 9 + 99 + 6 + 8 + 99 + 17);
        Checks.tells("miser", x, x.later(4, 2), 21, 80);
        Checks.tells("widow", x, x.later(5, 3), 16, 9 + 28 + 6 + 8 + 31 + 16);
        Checks.due("nothing is done", x.digest(), before);
        Checks.leaves("61", x, Checks.BAD, () -> x.later(0, 61));
        Checks.leaves("-1", x, Checks.BAD, () -> x.later(0, -1));
        Checks.leaves("house 6", x, Checks.BAD, () -> x.later(6, 0));
        Checks.leaves("house -1", x, Checks.BAD, () -> x.later(-1, 0));
    }

    static void soon() {
        ColourCoupons x = Checks.townOf("a11;b91;H9;M8;S1;W4;I0;");
        Checks.tells("at once", x, x.soon(0, 1), 0, 9);
        Checks.leaves("never", x, Checks.NONE, () -> x.soon(1, 1));
        Checks.tells("mourner", x, x.soon(1, 0), 0, 8);
        Checks.tells("saver", x, x.soon(2, 1), 8, 9);
        Checks.leaves("widow has 7 at most", x, Checks.NONE, () -> x.soon(3, 1));
        Checks.leaves("miser of nothing", x, Checks.NONE, () -> x.soon(4, 0));
        x.buy(0, 1);
        Checks.tells("though it has that", x, x.soon(0, 1), 1, 9);
        x.buy(2, 0);
        Checks.tells("saver, a month more", x, x.soon(2, 1), 9, 9);
        Checks.leaves("house 5", x, Checks.BAD, () -> x.soon(5, 0));
        Checks.leaves("house -1", x, Checks.BAD, () -> x.soon(-1, 0));
        Checks.leaves("colour 2", x, Checks.BAD, () -> x.soon(0, 2));
        Checks.leaves("colour -1", x, Checks.BAD, () -> x.soon(0, -1));
        ColourCoupons y = Checks.townOf("a11;H9;H0;");
        for (int i = 0; i < 39; i++) y.month();
        Checks.tells("beyond month 99, too", y, y.later(0, 60), 9, 9);
    }

    static void feast() {
        ColourCoupons x = Checks.townOf("a21;b91;c52;H9;S1;M9;B6;");
        Checks.tells("nothing", x, x.feast(0, 0), 0, 0);
        Checks.tells("one", x, x.feast(0, 2), 0, 9);
        Checks.tells("two", x, x.feast(0, 5), 0, 7);
        Checks.leaves("too many", x, Checks.NONE, () -> x.feast(0, 3));
        Checks.tells("saver, all", x, x.feast(1, 7), 15, 16);
        Checks.leaves("mourner", x, Checks.NONE, () -> x.feast(2, 5));
        Checks.tells("mourner", x, x.feast(2, 1), 0, 4);
        Checks.tells("blind", x, x.feast(3, 5), 0, 5);
        Checks.leaves("set 8", x, Checks.BAD, () -> x.feast(0, 8));
        Checks.leaves("set -1", x, Checks.BAD, () -> x.feast(0, -1));
        Checks.leaves("house 4", x, Checks.BAD, () -> x.feast(4, 0));
        Checks.leaves("house -1", x, Checks.BAD, () -> x.feast(-1, 0));
    }

    static void feastFarAhead() {
        ColourCoupons x = Checks.townOf("a91;b91;c91;d91;e91;f91;g71;h81;S1;S0;");
        Checks.tells("in 60 months", x, x.feast(0, 127), 60, 61);
        Checks.leaves("in 61 months", x, Checks.NONE, () -> x.feast(0, 63 + 128));
        Checks.leaves("all", x, Checks.NONE, () -> x.feast(0, 255));
        Checks.leaves("set 256", x, Checks.BAD, () -> x.feast(0, 256));
        for (int i = 0; i < 40; i++) x.month();
        Checks.tells("beyond month 99", x, x.feast(0, 255), 28, 69);
        Checks.due("it is month 40", x.count(2), 40);
        Checks.tells("beyond month 99", x, x.later(0, 60), 99, 99);
    }

    static void feastOfThings() {
        ColourCoupons x = Checks.townOf("a53;b55;H8;S1;");
        x.buy(0, 0);
        Checks.tells("what it has is free; in a month it can pay", x, x.feast(0, 3), 1, 5);
        x.month();
        x.month();
        Checks.tells("still there", x, x.feast(0, 3), 0, 5);
        x.month();
        Checks.leaves("gone", x, Checks.NONE, () -> x.feast(0, 3));
        x.undo(0);
        x.lend(0, 1, 5);
        x.buy(1, 0);
        Checks.due("purse", x.later(1, 0), 1);
        Checks.tells("saver: it fades before it can pay for one", x, x.feast(1, 3), 9, 10);
        Checks.tells("saver: what it has is nothing to pay", x, x.feast(1, 1), 0, 0);
    }
}

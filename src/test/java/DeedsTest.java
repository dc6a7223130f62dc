/** Promises 17 to 23: buying, months, trading, lending, undoing, keeping, going on. */
public final class DeedsTest {
    public static void main(String[] args) {
        buy();
        month();
        purses();
        fullPurses();
        trade();
        lend();
        lendToTheFull();
        full();
        undo();
        keep();
        Checks.end();
    }

    static void buy() {
        ColourCoupons x = Checks.townOf("a11;b55;c99;H9;M9;B5;W8;");
        Checks.due("house", x.buy(0, 1), 4);
        Checks.leaves("it has that", x, Checks.STATE, () -> x.buy(0, 1));
        Checks.leaves("too dear", x, Checks.SPENT, () -> x.buy(0, 2));
        Checks.due("house", x.buy(0, 0), 3);
        Checks.leaves("mourner", x, Checks.SPENT, () -> x.buy(1, 1));
        Checks.due("mourner", x.buy(1, 0), 7);
        Checks.due("blind", x.buy(2, 1), 1);
        Checks.due("blind", x.buy(2, 0), 0);
        Checks.leaves("widow", x, Checks.SPENT, () -> x.buy(3, 2));
        Checks.due("widow", x.buy(3, 0), 6);
        Checks.due("deeds", x.count(3), 6);
        Checks.due("things", x.count(4), 6);
        Checks.leaves("house 4", x, Checks.BAD, () -> x.buy(4, 0));
        Checks.leaves("house -1", x, Checks.BAD, () -> x.buy(-1, 0));
        Checks.leaves("colour 3", x, Checks.BAD, () -> x.buy(0, 3));
        Checks.leaves("colour -1", x, Checks.BAD, () -> x.buy(0, -1));
    }

    static void month() {
        ColourCoupons x = new ColourCoupons();
        Checks.leaves("no houses", x, Checks.STATE, () -> x.month());
        ColourCoupons y = Checks.townOf("a11;b12;H9;B9;W9;");
        for (int h = 0; h < 3; h++) {
            y.buy(h, 0);
            y.buy(h, 1);
        }
        Checks.due("month 1", y.month(), 1);
        Checks.due("month", y.count(2), 1);
        Checks.due("month 2", y.month(), 2);
        Checks.due("month 3", y.month(), 2);
        Checks.due("month 4", y.month(), 1);
        Checks.due("things", y.count(4), 0);
        Checks.due("deeds", y.count(3), 10);
        Checks.due("faded, bought again", y.buy(0, 0), 8);
        Checks.due("its end", y.thing(0, 0), 5);
    }

    static void purses() {
        ColourCoupons x = Checks.townOf("a59;H9;S7;M6;B8;I6;W9;");
        x.buy(0, 0);
        x.buy(5, 0);
        x.month();
        int[] first = {9, 14, 6, 8, 13, 9};
        for (int h = 0; h < 6; h++) Checks.tells("purse " + h, x, x.house(h, 2), 1, first[h]);
        x.month();
        int[] second = {9, 21, 6, 8, 21, 13};
        for (int h = 0; h < 6; h++) Checks.tells("purse " + h, x, x.house(h, 2), 1, second[h]);
    }

    static void fullPurses() {
        ColourCoupons x = Checks.townOf("a11;S9;I9;");
        for (int i = 0; i < 10; i++) x.month();
        Checks.tells("saver", x, x.house(0, 2), 1, 99);
        Checks.tells("miser", x, x.house(1, 2), 1, 99);
        x.month();
        Checks.tells("saver", x, x.house(0, 2), 1, 99);
        x.buy(0, 0);
        Checks.tells("saver", x, x.house(0, 2), 1, 98);
    }

    static void trade() {
        ColourCoupons x = Checks.townOf("a13;b15;c11;H9;H9;W9;");
        x.buy(0, 0);
        x.buy(1, 1);
        x.buy(2, 0);
        x.buy(2, 1);
        Checks.due("trade", x.trade(0, 0, 1, 1), 5);
        Checks.due("its end stays", x.thing(0, 1), 5);
        Checks.due("its end stays", x.thing(1, 0), 3);
        Checks.due("given away", x.thing(0, 0), Checks.NONE);
        Checks.due("given away", x.thing(1, 1), Checks.NONE);
        Checks.leaves("has not what it gives", x, Checks.STATE, () -> x.trade(0, 0, 1, 1));
        Checks.leaves("other has not", x, Checks.STATE, () -> x.trade(0, 1, 1, 2));
        Checks.leaves("has what it would get", x, Checks.STATE, () -> x.trade(2, 0, 0, 1));
        x.buy(0, 2);
        x.buy(1, 1);
        Checks.leaves("other has what it would get", x, Checks.STATE, () -> x.trade(0, 1, 1, 0));
        Checks.due("trade", x.trade(0, 2, 1, 0), 3);
        Checks.leaves("houses alike", x, Checks.BAD, () -> x.trade(0, 0, 0, 1));
        Checks.leaves("colours alike", x, Checks.BAD, () -> x.trade(0, 0, 2, 0));
        Checks.leaves("house 3", x, Checks.BAD, () -> x.trade(3, 0, 0, 1));
        Checks.leaves("house -1", x, Checks.BAD, () -> x.trade(0, 0, -1, 1));
        Checks.leaves("colour 3", x, Checks.BAD, () -> x.trade(0, 3, 1, 1));
        Checks.leaves("colour -1", x, Checks.BAD, () -> x.trade(0, 1, 1, -1));
        Checks.due("deeds", x.count(3), 8);
    }

    static void lend() {
        ColourCoupons x = Checks.townOf("a13;H9;S3;");
        Checks.due("lend", x.lend(0, 1, 4), 5);
        Checks.tells("got", x, x.house(1, 2), 1, 7);
        Checks.leaves("fewer", x, Checks.SPENT, () -> x.lend(0, 1, 6));
        Checks.due("all", x.lend(0, 1, 5), 0);
        Checks.due("nine", x.lend(1, 0, 9), 3);
        Checks.leaves("0", x, Checks.BAD, () -> x.lend(0, 1, 0));
        Checks.leaves("10", x, Checks.BAD, () -> x.lend(0, 1, 10));
        Checks.leaves("-1", x, Checks.BAD, () -> x.lend(0, 1, -1));
        Checks.leaves("alike", x, Checks.BAD, () -> x.lend(1, 1, 1));
        Checks.leaves("house 2", x, Checks.BAD, () -> x.lend(2, 0, 1));
        Checks.leaves("house -1", x, Checks.BAD, () -> x.lend(0, -1, 1));
        Checks.due("deeds", x.count(3), 3);
        Checks.due("nothing comes back", x.month(), 0);
        Checks.tells("house", x, x.house(0, 2), 1, 9);
        Checks.tells("saver", x, x.house(1, 2), 1, 6);
    }

    static void lendToTheFull() {
        ColourCoupons x = Checks.townOf("a13;H3;S9;");
        for (int i = 0; i < 9; i++) x.month();
        Checks.tells("saver", x, x.house(1, 2), 1, 90);
        x.lend(0, 1, 3);
        x.month();
        Checks.tells("saver", x, x.house(1, 2), 1, 99);
        Checks.leaves("more than 99", x, Checks.STATE, () -> x.lend(0, 1, 1));
        Checks.leaves("more than 99 ahead of too few", x, Checks.STATE, () -> x.lend(0, 1, 9));
        x.lend(1, 0, 2);
        Checks.due("99", x.lend(0, 1, 2), 3);
    }

    static void full() {
        ColourCoupons x = Checks.townOf("a19;b19;c99;H9;H0;");
        x.buy(0, 0);
        x.buy(1, 0);
        for (int i = 0; i < 39; i++) x.month();
        Checks.due("deeds", x.count(3), 40);
        Checks.leaves("month", x, Checks.FULL, () -> x.month());
        Checks.leaves("buy", x, Checks.FULL, () -> x.buy(0, 0));
        Checks.leaves("lend", x, Checks.FULL, () -> x.lend(0, 1, 1));
        Checks.leaves("lots", x, Checks.FULL, () -> x.lots(1, 1));
        Checks.leaves("spent ahead of full", x, Checks.SPENT, () -> x.buy(1, 0));
        Checks.leaves("spent ahead of full", x, Checks.SPENT, () -> x.lend(1, 0, 1));
        Checks.leaves("state ahead of full", x, Checks.STATE, () -> x.trade(0, 0, 1, 1));
        Checks.leaves("bad ahead of full", x, Checks.BAD, () -> x.buy(2, 0));
        ColourCoupons y = Checks.townOf("a19;b19;H9;H9;");
        y.buy(0, 0);
        y.buy(1, 1);
        for (int i = 0; i < 38; i++) y.lend(i % 2, 1 - i % 2, 1);
        Checks.due("deeds", y.count(3), 40);
        Checks.leaves("trade", y, Checks.FULL, () -> y.trade(0, 0, 1, 1));
        Checks.leaves("state ahead of full", y, Checks.STATE, () -> y.buy(0, 0));
        Checks.due("undo", y.undo(39), 1);
        Checks.due("the last trade", y.trade(0, 0, 1, 1), 9);
        Checks.due("undo", y.undo(39), 1);
        Checks.due("the last lots", y.lots(1, 1) >= 0 ? 1 : 0, 1);
        Checks.due("undo", y.undo(39), 1);
        Checks.due("the last buy", y.buy(0, 1) >= 0 ? 1 : 0, 1);
        Checks.due("deeds", y.count(3), 40);
    }

    static void undo() {
        ColourCoupons none = new ColourCoupons();
        Checks.leaves("nothing to undo", none, 0, () -> none.undo(0));
        Checks.leaves("1 of none", none, Checks.BAD, () -> none.undo(1));
        ColourCoupons x = Checks.townOf("a13;b15;H9;S7;I9;");
        long[] digests = new long[12];
        digests[0] = x.digest();
        x.buy(0, 0);
        digests[1] = x.digest();
        x.buy(1, 1);
        digests[2] = x.digest();
        x.trade(0, 0, 1, 1);
        digests[3] = x.digest();
        x.lend(2, 0, 5);
        digests[4] = x.digest();
        x.month();
        digests[5] = x.digest();
        x.lots(6, 12345);
        digests[11] = x.digest();
        Checks.leaves("12", x, Checks.BAD, () -> x.undo(12));
        Checks.leaves("-1", x, Checks.BAD, () -> x.undo(-1));
        Checks.leaves("none", x, 0, () -> x.undo(11));
        Checks.due("lots", x.undo(5), 6);
        Checks.due("back", x.digest(), digests[5]);
        Checks.due("lots anew", x.lots(6, 12345) >= 0 ? 1 : 0, 1);
        Checks.due("the same", x.digest(), digests[11]);
        Checks.due("all but 4", x.undo(4), 7);
        Checks.due("back", x.digest(), digests[4]);
        for (int n = 3; n >= 0; n--) {
            Checks.due("undo", x.undo(n), 1);
            Checks.due("back to " + n, x.digest(), digests[n]);
        }
    }

    static void keep() {
        ColourCoupons none = new ColourCoupons();
        Checks.leaves("keep 3", none, Checks.BAD, () -> none.keep(3));
        Checks.leaves("keep -1", none, Checks.BAD, () -> none.keep(-1));
        Checks.leaves("no houses", none, Checks.STATE, () -> none.keep(0));
        Checks.leaves("on 3", none, Checks.BAD, () -> none.on(3));
        Checks.leaves("on -1", none, Checks.BAD, () -> none.on(-1));
        Checks.finds("on none", none, Checks.NOTHING, () -> none.on(0));
        ColourCoupons x = Checks.townOf("a13;b15;H9;S7;I9;");
        Checks.due("keep without deeds", x.keep(1), 0);
        Checks.due("kept", x.count(8), 1);
        x.buy(0, 0);
        Checks.due("on without deeds", x.on(1), 0);
        Checks.due("things", x.count(4), 0);
        x.town(0);
        x.buy(0, 0);
        Checks.due("keep 0", x.keep(0), 1);
        x.month();
        x.buy(1, 1);
        Checks.due("keep 2", x.keep(2), 3);
        Checks.due("kept", x.count(8), 2);
        Checks.finds("on 1", x, Checks.NOTHING, () -> x.on(1));
        long last = x.digest();
        Checks.due("on 0", x.on(0), 1);
        Checks.due("month", x.count(2), 0);
        Checks.due("deeds", x.count(3), 1);
        Checks.due("things", x.count(4), 1);
        Checks.due("undo there", x.undo(0), 1);
        Checks.due("kept still", x.count(8), 2);
        x.lend(0, 1, 3);
        Checks.due("on 2", x.on(2), 3);
        Checks.due("as it was", x.digest(), last);
        Checks.due("its deeds are there", x.undo(2), 1);
        Checks.due("month", x.count(2), 1);
        Checks.due("keep over", x.keep(0), 2);
        Checks.due("on 2", x.on(2), 3);
        Checks.due("on 0", x.on(0), 2);
        Checks.due("kept", x.count(8), 2);
    }
}

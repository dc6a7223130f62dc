/** Promises 17 to 23 at their edges: buying, months, trading, lending, undoing, keeping, going on. */
public final class EdgesOfDeedsTest {
    private static final int LEAST = Integer.MIN_VALUE, MOST = Integer.MAX_VALUE;
    private static final int[] NO_HOUSES = {-1, 4, LEAST, MOST};
    private static final int[] NO_COLOURS = {-1, 3, LEAST, MOST};
    private static final int[] NO_PLACES = {-1, 3, LEAST, MOST};

    public static void main(String[] args) {
        buyRefused();
        buyOrderOfRefusals();
        buyAgain();
        monthRefused();
        monthsToForty();
        monthFades();
        tradeEnds();
        tradeRefused();
        tradeOrderOfRefusals();
        lendAllowed();
        lendUpToNinetyNine();
        lendRefused();
        lendOrderOfRefusals();
        fortiethDeed();
        fullIsLast();
        undoAllowed();
        undoRefused();
        undoAndOn();
        keepRefused();
        keepPlaces();
        onRefused();
        onOfForty();
        Checks.end();
    }

    static void bad(String what, Twins.Call call) {
        Twins.leaves(what, Twins::busy, Checks.BAD, call);
        Twins.leaves(what + ", no town", Twins::bare, Checks.BAD, call);
    }

    static void leaves(String what, int want, Twins.Call call) {
        Twins.leaves(what, Twins::busy, want, call);
    }

    /** Forty deeds. Houses: 0 has 7, and a; 1 has 0; 2 has 99, and b. Colours: a 1, b 1, c 9, all for 9 months. */
    static void full(ColourCoupons x) {
        nearlyFull(x);
        x.lend(1, 0, 1);
    }

    /** Thirty-nine deeds: house 0 has 6, 1 has 1. */
    static void nearlyFull(ColourCoupons x) {
        Twins.bare(x);
        Checks.write(x, 0, "a19;b19;c99;H9;H0;S9;");
        x.town(0);
        for (int i = 0; i < 31; i++) x.month();
        x.buy(0, 0);
        x.buy(2, 1);
        x.lend(0, 2, 1);
        x.keep(1);
        for (int i = 0; i < 5; i++) x.lend(i % 2, 1 - i % 2, 1);
    }

    static void buyRefused() {
        for (int no : NO_HOUSES) bad("buy, no house " + no, x -> x.buy(no, 0));
        for (int no : NO_COLOURS) bad("buy, no colour " + no, x -> x.buy(0, no));
        bad("buy, neither", x -> x.buy(4, 3));
        leaves("buy what it has", Checks.STATE, x -> x.buy(0, 2));
        leaves("buy for 9 with 5", Checks.SPENT, x -> x.buy(0, 0));
        leaves("buy for 18 with 9", Checks.SPENT, x -> x.buy(2, 0));
        leaves("buy for 8 with 1", Checks.SPENT, x -> x.buy(3, 0));
    }

    static void oneThingNoCoupons(ColourCoupons x) {
        Twins.bare(x);
        Checks.write(x, 0, "a12;H1;H1;");
        x.town(0);
        x.buy(0, 0);
    }

    static void buyOrderOfRefusals() {
        Twins.leaves("STATE ahead of SPENT", EdgesOfDeedsTest::oneThingNoCoupons, Checks.STATE, x -> x.buy(0, 0));
        Twins.leaves("BAD ahead of STATE", EdgesOfDeedsTest::oneThingNoCoupons, Checks.BAD, x -> x.buy(0, 1));
        Twins.leaves("BAD ahead of SPENT", EdgesOfDeedsTest::oneThingNoCoupons, Checks.BAD, x -> x.buy(2, 0));
    }

    static void buyAgain() {
        ColourCoupons x = Checks.townOf("a12;H3;H1;");
        Checks.due("buy", x.buy(0, 0), 2);
        x.month();
        Checks.due("a month ahead of its end", x.buy(0, 0), Checks.STATE);
        x.month();
        Checks.due("at its end", x.buy(0, 0), 2);
        Checks.due("the new end", x.thing(0, 0), 4);
        Checks.due("the other house may, too", x.buy(1, 0), 0);
        Checks.due("things", x.count(4), 2);
        Checks.due("deeds", x.count(3), 5);
    }

    static void monthRefused() {
        Twins.leaves("no houses", Twins::bare, Checks.STATE, x -> x.month());
        Twins.leaves("no houses, new", x -> { }, Checks.STATE, x -> x.month());
    }

    static void monthsToForty() {
        ColourCoupons x = Checks.townOf("a12;H3;H1;");
        for (int i = 1; i <= 40; i++) {
            Checks.due("month " + i, x.month(), 0);
            Checks.due("it is month", x.count(2), i);
            Checks.due("deeds", x.count(3), i);
        }
        Checks.leaves("the forty-first deed", x, Checks.FULL, () -> x.month());
    }

    static void monthFades() {
        ColourCoupons x = Checks.townOf("a11;b12;c19;H9;H9;B9;W9;");
        for (int h = 0; h < 4; h++) for (int c = 0; c < 3; c++) x.buy(h, c);
        // ends: 1 2 9, 1 2 9, 2 3 10, 3 4 11
        int[] fade = {2, 3, 2, 1, 0, 0, 0, 0, 2, 1, 1, 0};
        int left = 12;
        for (int m = 0; m < fade.length; m++) {
            Checks.due("month " + (m + 1), x.month(), fade[m]);
            left -= fade[m];
            Checks.due("things", x.count(4), left);
        }
    }

    static void tradeEnds() {
        ColourCoupons x = Checks.townOf("a12;b15;B9;H9;W9;");
        x.buy(0, 0);
        x.buy(1, 1);
        Checks.due("trade", x.trade(0, 0, 1, 1), 5);
        Checks.due("the blind one's stays as bought", x.thing(0, 1), 5);
        Checks.due("the house's stays as bought", x.thing(1, 0), 3);
        Checks.tells("purse", x, x.house(0, 2), 1, 8);
        Checks.tells("purse", x, x.house(1, 2), 1, 8);
        Checks.due("deeds", x.count(3), 3);
        Checks.due("things", x.count(4), 2);
        Checks.due("back", x.trade(0, 1, 1, 0), 3);
        Checks.due("as before", x.thing(0, 0), 3);
        Checks.due("as before", x.thing(1, 1), 5);
        x.trade(1, 1, 0, 0);
        x.month();
        x.month();
        Checks.due("it fades at its end, in another's hands", x.month(), 1);
        Checks.due("gone", x.thing(1, 0), Checks.NONE);
        Checks.due("asked() is still what thing() told", x.asked(), 1);
    }

    static void tradeRefused() {
        for (int no : NO_HOUSES) {
            bad("trade, no house " + no, x -> x.trade(no, 2, 3, 1));
            bad("trade, no house " + no, x -> x.trade(0, 2, no, 1));
        }
        for (int no : NO_COLOURS) {
            bad("trade, no colour " + no, x -> x.trade(0, no, 3, 1));
            bad("trade, no colour " + no, x -> x.trade(0, 2, 3, no));
        }
        bad("houses alike", x -> x.trade(0, 2, 0, 1));
        bad("colours alike", x -> x.trade(0, 2, 3, 2));
        bad("both alike", x -> x.trade(0, 2, 0, 2));
        leaves("has not what it gives", Checks.STATE, x -> x.trade(0, 0, 3, 1));
        leaves("other one has not what it gives", Checks.STATE, x -> x.trade(0, 2, 3, 0));
        leaves("neither has", Checks.STATE, x -> x.trade(1, 0, 2, 1));
        Checks.due("but so it can", Twins.made(Twins::busy).trade(0, 2, 3, 1), 5);
        Checks.due("or so", Twins.made(Twins::busy).trade(3, 1, 0, 2), 4);
        Twins.leaves("has what it would get", EdgesOfDeedsTest::bothAndOne, Checks.STATE, x -> x.trade(0, 0, 1, 1));
        Twins.leaves("other one has what it would get", EdgesOfDeedsTest::bothAndOne, Checks.STATE, x -> x.trade(1, 1, 0, 0));
        Checks.due("something else", Twins.made(EdgesOfDeedsTest::bothAndOne).trade(0, 0, 2, 2), 9);
    }

    /** House 0 has a and b, 1 has b, 2 has c. */
    static void bothAndOne(ColourCoupons x) {
        Twins.bare(x);
        Checks.write(x, 0, "a12;b15;c19;H9;H9;H9;");
        x.town(0);
        x.buy(0, 0);
        x.buy(0, 1);
        x.buy(1, 1);
        x.buy(2, 2);
    }

    static void tradeOrderOfRefusals() {
        leaves("houses alike ahead of STATE", Checks.BAD, x -> x.trade(1, 0, 1, 1));
        leaves("colours alike ahead of STATE", Checks.BAD, x -> x.trade(1, 0, 2, 0));
        leaves("no house ahead of STATE", Checks.BAD, x -> x.trade(1, 0, 4, 1));
        leaves("no colour ahead of STATE", Checks.BAD, x -> x.trade(1, 0, 2, 3));
    }

    static void lendAllowed() {
        for (int n = 1; n <= 9; n++) {
            ColourCoupons x = Checks.townOf("a12;H9;H0;");
            Checks.due("lend " + n, x.lend(0, 1, n), 9 - n);
            Checks.tells("lender", x, x.house(0, 2), 1, 9 - n);
            Checks.tells("other one", x, x.house(1, 2), 1, n);
            Checks.due("deeds", x.count(3), 1);
            Checks.due("all together", x.count(5), 9);
            int tooMany = 10 - n;
            if (n < 9) Checks.leaves("one more than it has", x, Checks.SPENT, () -> x.lend(0, 1, tooMany));
            if (n < 9) Checks.due("the rest", x.lend(0, 1, 9 - n), 0);
            Checks.leaves("nothing left", x, Checks.SPENT, () -> x.lend(0, 1, 1));
        }
    }

    /** A saver of 90 and more, and a house with what is left of 9. */
    static void rich(ColourCoupons x, int purse) {
        Twins.bare(x);
        Checks.write(x, 0, "a12;S9;H9;");
        x.town(0);
        for (int i = 0; i < 9; i++) x.month();
        if (purse > 90) x.lend(1, 0, purse - 90);
    }

    static void lendUpToNinetyNine() {
        for (int has = 90; has <= 98; has++) {
            int purse = has;
            for (int n = 1; n <= 9; n++) {
                int more = n;
                boolean spent = n > 9 - (has - 90);
                int want = has + n > 99 ? Checks.STATE : spent ? Checks.SPENT : 9 - (has - 90) - n;
                if (want < 0) Twins.leaves("lend " + n + " to " + has, x -> rich(x, purse), want, x -> x.lend(1, 0, more));
                else Checks.due("lend " + n + " to " + has, Twins.made(x -> rich(x, purse)).lend(1, 0, more), want);
            }
        }
        Twins.leaves("to 99", x -> rich(x, 99), Checks.STATE, x -> x.lend(1, 0, 1));
    }

    static void lendRefused() {
        for (int no : NO_HOUSES) {
            bad("lend, no house " + no, x -> x.lend(no, 0, 1));
            bad("lend, no house " + no, x -> x.lend(0, no, 1));
        }
        for (int no : new int[] {0, -1, 10, LEAST, MOST}) bad("lend " + no, x -> x.lend(2, 0, no));
        for (int h = 0; h < 4; h++) {
            int house = h;
            bad("houses alike", x -> x.lend(house, house, 1));
        }
        leaves("lend 6 of 5", Checks.SPENT, x -> x.lend(0, 1, 6));
        leaves("lend 2 of 1", Checks.SPENT, x -> x.lend(3, 1, 2));
    }

    static void lendOrderOfRefusals() {
        leaves("alike ahead of SPENT", Checks.BAD, x -> x.lend(3, 3, 2));
        leaves("10 ahead of SPENT", Checks.BAD, x -> x.lend(3, 1, 10));
        leaves("no house ahead of SPENT", Checks.BAD, x -> x.lend(3, 4, 2));
        Twins.leaves("STATE ahead of SPENT", x -> rich(x, 99), Checks.STATE, x -> x.lend(1, 0, 9));
        Twins.leaves("alike ahead of STATE", x -> rich(x, 99), Checks.BAD, x -> x.lend(0, 0, 1));
        Twins.leaves("10 ahead of STATE", x -> rich(x, 99), Checks.BAD, x -> x.lend(1, 0, 10));
        Twins.leaves("0 ahead of STATE", x -> rich(x, 99), Checks.BAD, x -> x.lend(1, 0, 0));
    }

    static void fortieth(String what, int want, Twins.Call call) {
        ColourCoupons x = Twins.made(EdgesOfDeedsTest::nearlyFull);
        Checks.due("deeds", x.count(3), 39);
        Checks.due(what + " as the fortieth deed", call.on(x), want);
        Checks.due("deeds", x.count(3), 40);
        Checks.due("the forty-first", x.month(), Checks.FULL);
        Checks.due("undone", x.undo(39), 1);
    }

    static void fortiethDeed() {
        fortieth("buy", 5, x -> x.buy(0, 1));
        fortieth("month", 0, x -> x.month());
        fortieth("trade", 40, x -> x.trade(0, 0, 2, 1));
        fortieth("lend", 5, x -> x.lend(0, 1, 1));
        fortieth("lots", 2, x -> x.lots(1, 8));
        Twins.leaves("two more by lots", EdgesOfDeedsTest::nearlyFull, Checks.FULL, x -> x.lots(2, 8));
        Twins.leaves("buy", EdgesOfDeedsTest::full, Checks.FULL, x -> x.buy(0, 1));
        Twins.leaves("month", EdgesOfDeedsTest::full, Checks.FULL, x -> x.month());
        Twins.leaves("trade", EdgesOfDeedsTest::full, Checks.FULL, x -> x.trade(0, 0, 2, 1));
        Twins.leaves("lend", EdgesOfDeedsTest::full, Checks.FULL, x -> x.lend(0, 1, 1));
        Twins.leaves("lots", EdgesOfDeedsTest::full, Checks.FULL, x -> x.lots(1, 8));
    }

    static void fullIsLast() {
        Twins.Recipe full = EdgesOfDeedsTest::full;
        Twins.leaves("SPENT ahead of FULL: buy", full, Checks.SPENT, x -> x.buy(1, 0));
        Twins.leaves("SPENT ahead of FULL: buy", full, Checks.SPENT, x -> x.buy(0, 2));
        Twins.leaves("SPENT ahead of FULL: lend", full, Checks.SPENT, x -> x.lend(1, 0, 1));
        Twins.leaves("STATE ahead of FULL: buy", full, Checks.STATE, x -> x.buy(0, 0));
        Twins.leaves("STATE ahead of FULL: trade", full, Checks.STATE, x -> x.trade(0, 1, 2, 0));
        Twins.leaves("STATE ahead of FULL: lend", full, Checks.STATE, x -> x.lend(0, 2, 1));
        Twins.leaves("STATE ahead of SPENT, FULL: lend", full, Checks.STATE, x -> x.lend(1, 2, 1));
        Twins.leaves("BAD ahead of FULL: buy", full, Checks.BAD, x -> x.buy(3, 1));
        Twins.leaves("BAD ahead of FULL: buy", full, Checks.BAD, x -> x.buy(0, 3));
        Twins.leaves("BAD ahead of FULL: trade", full, Checks.BAD, x -> x.trade(0, 0, 0, 1));
        Twins.leaves("BAD ahead of FULL: trade", full, Checks.BAD, x -> x.trade(0, 0, 2, 0));
        Twins.leaves("BAD ahead of FULL: lend", full, Checks.BAD, x -> x.lend(0, 0, 1));
        Twins.leaves("BAD ahead of FULL: lend", full, Checks.BAD, x -> x.lend(0, 1, 10));
        Twins.leaves("BAD ahead of FULL: lots", full, Checks.BAD, x -> x.lots(0, 1));
        Twins.leaves("BAD ahead of FULL: lots", full, Checks.BAD, x -> x.lots(21, 1));
        Twins.leaves("BAD ahead of FULL: lots", full, Checks.BAD, x -> x.lots(1, 0));
    }

    static void undoAllowed() {
        for (int n = 0; n <= 8; n++) {
            ColourCoupons x = Twins.made(Twins::busy);
            int told = x.asked();
            Checks.due("undo " + n, x.undo(n), 8 - n);
            Checks.due("deeds", x.count(3), n);
            Checks.due("kept", x.count(8), 2);
            Checks.due("undo tells nothing", x.asked(), told);
        }
        leaves("undo none", 0, x -> x.undo(8));
        Twins.leaves("undo none of forty", EdgesOfDeedsTest::full, 0, x -> x.undo(40));
        Twins.leaves("undo none of none", Twins::bare, 0, x -> x.undo(0));
        Twins.leaves("undo none, new", x -> { }, 0, x -> x.undo(0));
        ColourCoupons x = Twins.made(EdgesOfDeedsTest::full);
        Checks.due("undo all of forty", x.undo(0), 40);
        Checks.due("month", x.count(2), 0);
        Checks.due("things", x.count(4), 0);
        Checks.due("purses", x.count(5), 18);
    }

    static void undoRefused() {
        for (int no : new int[] {-1, 9, LEAST, MOST}) bad("undo " + no, x -> x.undo(no));
        for (int no : new int[] {-1, 41}) Twins.leaves("undo " + no, EdgesOfDeedsTest::full, Checks.BAD, x -> x.undo(no));
        Twins.leaves("undo 1 of none", Twins::bare, Checks.BAD, x -> x.undo(1));
        Twins.leaves("undo 1, new", x -> { }, Checks.BAD, x -> x.undo(1));
    }

    static void undoAndOn() {
        ColourCoupons x = Checks.townOf("a12;b15;H9;S7;");
        x.buy(0, 0);
        x.month();
        x.buy(1, 1);
        Checks.due("undo", x.undo(1), 2);
        x.lend(1, 0, 2);
        x.month();
        x.month();
        Checks.due("deeds", x.count(3), 4);
        Checks.due("month", x.count(2), 2);
        Checks.due("purses", x.count(5), 9 + 19);
        Checks.due("things", x.count(4), 0);
        Checks.due("undo", x.undo(2), 2);
        Checks.due("purses", x.count(5), 8 + 2 + 5);
        Checks.due("the thing is back", x.thing(0, 0), 2);
    }

    static void keepRefused() {
        for (int no : NO_PLACES) bad("keep " + no, x -> x.keep(no));
        for (int k = 0; k < 3; k++) {
            int place = k;
            Twins.leaves("keep without houses", Twins::bare, Checks.STATE, x -> x.keep(place));
            Twins.leaves("keep without houses, new", x -> { }, Checks.STATE, x -> x.keep(place));
        }
    }

    static void keepPlaces() {
        ColourCoupons x = Checks.townOf("a12;b15;H9;S7;");
        for (int k = 0; k < 3; k++) {
            Checks.due("keep " + k, x.keep(k), k);
            Checks.due("kept", x.count(8), k + 1);
            x.month();
        }
        long last = x.digest();
        for (int k = 2; k >= 0; k--) {
            Checks.due("on " + k, x.on(k), k);
            Checks.due("month", x.count(2), k);
            Checks.due("saver's purse", x.later(1, 0), 7 + 7 * k);
            Checks.due("kept still", x.count(8), 3);
        }
        Checks.due("once more", x.on(2), 2);
        x.month();
        Checks.due("the same again", x.digest(), last);
        Checks.due("another in its place", x.keep(0), 3);
        Checks.due("kept", x.count(8), 3);
        x.undo(0);
        Checks.due("undo leaves what is kept", x.on(0), 3);
        Checks.due("month", x.count(2), 3);
        x.buy(0, 0);
        Checks.due("deeds behind it leave what is kept", x.on(0), 3);
        Checks.due("things", x.count(4), 0);
    }

    static void onRefused() {
        for (int no : NO_PLACES) bad("on " + no, x -> x.on(no));
        Twins.finds("on to what is missing", Twins::busy, Checks.NOTHING, x -> x.on(1));
        for (int k = 0; k < 3; k++) {
            int place = k;
            Twins.finds("on without a town", Twins::bare, Checks.NOTHING, x -> x.on(place));
            Twins.finds("on, new", x -> { }, Checks.NOTHING, x -> x.on(place));
        }
    }

    static void onOfForty() {
        ColourCoupons x = Twins.made(EdgesOfDeedsTest::full);
        Checks.due("keep forty", x.keep(2), 40);
        long last = x.digest();
        x.undo(0);
        Checks.due("on to forty", x.on(2), 40);
        Checks.due("as it was", x.digest(), last);
        Checks.due("no more", x.month(), Checks.FULL);
        Checks.due("on to fewer", x.on(1), 34);
        Checks.due("room again", x.month(), 0);
        Checks.due("each deed is there", x.undo(31), 4);
        Checks.due("month", x.count(2), 31);
        Checks.due("things", x.count(4), 0);
    }
}

/** Promises 24 to 30, and 35, at their edges: what comes, shopping, turns. */
public final class EdgesOfOutlooksTest {
    private static final int LEAST = Integer.MIN_VALUE, MOST = Integer.MAX_VALUE;
    private static final int NONE = Checks.NONE;
    private static final int[] NO_HOUSES = {-1, 4, LEAST, MOST};
    private static final int[] NO_COLOURS = {-1, 3, LEAST, MOST};
    private static final int[] NO_MONTHS = {-1, 61, LEAST, MOST};

    public static void main(String[] args) {
        nextNone();
        nextOfAll();
        nextOfLikeOnes();
        fadesRefused();
        fadesAtTheEnd();
        fadesOfNone();
        fadesLast();
        laterRefused();
        laterMonths();
        soonRefused();
        soonAtOnce();
        soonNever();
        feastRefused();
        feastOfSets();
        feastOfWhatItHas();
        feastInSixty();
        aside();
        shopRefused();
        shopToTheLastCoupon();
        shopOrders();
        shopLikeOnes();
        shopFractions();
        best();
        duelRefused();
        duelNothing();
        duelAtNinetyNine();
        duelTurns();
        Checks.end();
    }

    static void bad(String what, Twins.Call call) {
        Twins.leaves(what, Twins::busy, Checks.BAD, call);
        Twins.leaves(what + ", no town", Twins::bare, Checks.BAD, call);
    }

    static void nothingThere(ColourCoupons x) {
        Twins.bare(x);
        Checks.write(x, 0, "a12;b15;H9;S7;");
        x.town(0);
    }

    static void nextNone() {
        Twins.leaves("next, new", x -> { }, NONE, x -> x.next());
        Twins.leaves("next, no town", Twins::bare, NONE, x -> x.next());
        Twins.leaves("next, no things", EdgesOfOutlooksTest::nothingThere, NONE, x -> x.next());
        ColourCoupons x = Checks.townOf("a11;H9;H9;");
        x.buy(1, 0);
        Checks.tells("next", x, x.next(), 10, 1);
        x.month();
        Checks.leaves("all gone", x, NONE, () -> x.next());
    }

    static void nextOfAll() {
        ColourCoupons x = Checks.townOf("a11;b11;c11;d11;e11;f11;g11;h11;H9;H9;H9;H9;H9;W9;");
        x.buy(5, 7);
        Checks.tells("the highest", x, x.next(), 57, 3);
        x.month();
        Checks.tells("ends stay", x, x.next(), 57, 3);
        x.buy(0, 7);
        Checks.tells("a lower end", x, x.next(), 7, 2);
        x.buy(0, 0);
        Checks.tells("the lowest", x, x.next(), 0, 2);
    }

    static void nextOfLikeOnes() {
        ColourCoupons x = Checks.townOf("a12;b11;c13;H9;B9;W9;");
        x.buy(2, 1);
        Checks.tells("end 3", x, x.next(), 21, 3);
        x.buy(1, 0);
        Checks.tells("a lower house of the same end", x, x.next(), 10, 3);
        x.buy(0, 2);
        Checks.tells("a lower house, a higher colour", x, x.next(), 2, 3);
        x.buy(1, 1);
        Checks.tells("a lower end of a higher house", x, x.next(), 11, 2);
        x.buy(0, 0);
        Checks.tells("a lower house of the same end", x, x.next(), 0, 2);
        x.buy(0, 1);
        Checks.tells("a lower end of a higher colour", x, x.next(), 1, 1);
    }

    static void fadesRefused() {
        for (int no : NO_MONTHS) bad("fades " + no, x -> x.fades(no));
    }

    static void fadesAtTheEnd() {
        for (int start = 0; start <= 5; start += 5) {
            ColourCoupons x = Checks.townOf("a19;H9;H9;");
            for (int i = 0; i < start; i++) x.month();
            x.buy(1, 0);
            for (int n = 0; n <= 8; n++) Checks.tells("ahead of its end", x, x.fades(n), 0, NONE);
            for (int n : new int[] {9, 10, 59, 60}) Checks.tells("from its end on", x, x.fades(n), 1, 10);
            x.month();
            Checks.tells("a month on", x, x.fades(7), 0, NONE);
            Checks.tells("a month on", x, x.fades(8), 1, 10);
            Checks.due("nothing is done", x.count(4), 1);
        }
    }

    static void fadesOfNone() {
        ColourCoupons x = new ColourCoupons();
        Checks.tells("new", x, x.fades(0), 0, NONE);
        Checks.tells("new", x, x.fades(60), 0, NONE);
        ColourCoupons y = Twins.made(Twins::busy);
        Checks.tells("in none", y, y.fades(0), 0, NONE);
    }

    static void fadesLast() {
        ColourCoupons x = Checks.townOf("a12;b11;c13;H9;B9;W9;");
        x.buy(0, 2);
        x.buy(0, 0);
        Checks.tells("the last one by then", x, x.fades(2), 1, 0);
        Checks.tells("a higher colour of a higher end", x, x.fades(3), 2, 2);
        x.buy(1, 0);
        Checks.tells("of like ones the last by next()", x, x.fades(3), 3, 10);
        x.buy(2, 1);
        Checks.tells("of like ones the last by next()", x, x.fades(3), 4, 21);
        x.buy(1, 2);
        Checks.tells("a lower house of a higher end", x, x.fades(4), 5, 12);
        x.buy(1, 1);
        Checks.tells("one more of a lower end", x, x.fades(4), 6, 12);
        Checks.tells("those up to 2", x, x.fades(2), 2, 11);
        Checks.tells("none in 1", x, x.fades(1), 0, NONE);
    }

    static void laterRefused() {
        for (int no : NO_HOUSES) {
            bad("later, no house " + no, x -> x.later(no, 0));
            bad("later, neither", x -> x.later(no, 61));
        }
        for (int no : NO_MONTHS) bad("later in " + no, x -> x.later(0, no));
    }

    static void laterMonths() {
        for (int h = 0; h < 6; h++) {
            ColourCoupons x = Checks.townOf("a19;H9;S1;M3;B4;I2;W7;");
            ColourCoupons y = Checks.townOf("a19;H9;S1;M3;B4;I2;W7;");
            x.buy(0, 0);
            y.buy(0, 0);
            for (int n = 0; n <= 39; n++) {
                int got = x.later(h, n);
                Checks.due("all together", x.asked(), y.count(5));
                Checks.tells("later " + h + ", " + n, y, y.house(h, 2), 1, got);
                y.month();
            }
        }
        ColourCoupons z = Checks.townOf("a19;S1;S0;H9;");
        Checks.tells("in 59", z, z.later(0, 59), 60, 69);
        Checks.tells("in 60", z, z.later(0, 60), 61, 70);
        for (int i = 0; i < 39; i++) z.month();
        Checks.tells("99 at most", z, z.later(0, 58), 98, 107);
        Checks.tells("99 at most", z, z.later(0, 59), 99, 108);
        Checks.tells("99 at most", z, z.later(0, 60), 99, 108);
        z.month();
        Checks.tells("beyond month 99, too", z, z.later(0, 60), 99, 108);
        Checks.due("it is month 40 still", z.count(2), 40);
    }

    static void soonRefused() {
        for (int no : NO_HOUSES) bad("soon, no house " + no, x -> x.soon(no, 0));
        for (int no : NO_COLOURS) bad("soon, no colour " + no, x -> x.soon(0, no));
    }

    static void soonAtOnce() {
        for (int price = 1; price <= 9; price++) {
            ColourCoupons x = Checks.townOf("q" + price + "1;H" + price + ";S1;S2;W5;I5;M" + price + ";");
            Checks.tells("just so many", x, x.soon(0, 0), 0, price);
            Checks.tells("one more each month", x, x.soon(1, 0), price - 1, price);
            Checks.tells("two more each month", x, x.soon(2, 0), (price - 1) / 2, 2 * ((price + 1) / 2));
            Checks.leaves("a mourner never has twice the price", x, NONE, () -> x.soon(5, 0));
            if (price > 1) {
                x.lend(0, 1, 1);
                Checks.tells("one too few: next month", x, x.soon(0, 0), 1, price);
                Checks.tells("one more: a month sooner", x, x.soon(1, 0), price - 2, price);
            }
        }
        ColourCoupons x = Checks.townOf("q91;W5;I5;W4;");
        // widow: 5 7 8 9; miser: 5 11; widow: 4 6 7 7
        Checks.tells("widow", x, x.soon(0, 0), 3, 9);
        Checks.tells("miser", x, x.soon(1, 0), 1, 11);
        Checks.leaves("widow", x, NONE, () -> x.soon(2, 0));
    }

    static void soonNever() {
        Twins.leaves("18 of 9 a month", Twins::busy, NONE, x -> x.soon(2, 0));
        Twins.leaves("8 of 2 a month", Twins::busy, NONE, x -> x.soon(3, 0));
        ColourCoupons x = Checks.townOf("q11;S0;I0;W0;H0;B0;H1;");
        for (int h = 0; h < 5; h++) {
            int house = h;
            Checks.leaves("of nothing", x, NONE, () -> x.soon(house, 0));
        }
        x.buy(5, 0);
        Checks.tells("though it has it", x, x.soon(5, 0), 1, 1);
    }

    static void feastRefused() {
        for (int no : NO_HOUSES) bad("feast, no house " + no, x -> x.feast(no, 0));
        for (int no : new int[] {-1, 8, 9, 15, LEAST, MOST}) bad("feast of " + no, x -> x.feast(0, no));
        ColourCoupons x = Checks.townOf("a11;b11;c11;d11;e11;f11;g11;h11;H9;H9;");
        Checks.tells("all eight", x, x.feast(0, 255), 0, 8);
        Checks.tells("the eighth", x, x.feast(0, 128), 0, 1);
        Checks.leaves("a ninth", x, Checks.BAD, () -> x.feast(0, 256));
        ColourCoupons y = Checks.townOf("a11;H9;H9;");
        Checks.tells("the one", y, y.feast(0, 1), 0, 1);
        Checks.leaves("a second", y, Checks.BAD, () -> y.feast(0, 2));
        Twins.leaves("more than ever", Twins::busy, NONE, z -> z.feast(0, 1));
    }

    static void feastOfSets() {
        ColourCoupons x = Checks.townOf("a11;b31;c51;H9;H8;H0;M8;B6;W9;");
        int[] prices = {1, 3, 5};
        for (int set = 0; set < 8; set++) {
            int sum = 0;
            for (int c = 0; c < 3; c++) if ((set >> c & 1) != 0) sum += prices[c];
            Checks.tells("nine pay for all", x, x.feast(0, set), 0, sum);
            feastOrNever(x, 1, set, sum, 8);
            feastOrNever(x, 2, set, sum, 0);
            feastOrNever(x, 3, set, 2 * sum, 8);
            feastOrNever(x, 4, set, sum - Integer.bitCount(set & 6), 6);
        }
        Checks.tells("widow: 2 and 6", x, x.feast(5, 3), 0, 8);
        // her purse: 9 13 15 16 17
        Checks.tells("widow: 2 and 9", x, x.feast(5, 5), 1, 11);
        Checks.tells("widow: 6 and 9", x, x.feast(5, 6), 2, 15);
        Checks.tells("widow: all", x, x.feast(5, 7), 4, 17);
    }

    static void feastOrNever(ColourCoupons x, int h, int set, int sum, int purse) {
        if (sum <= purse) Checks.tells("feast " + h + ", " + set, x, x.feast(h, set), 0, sum);
        else Checks.leaves("feast " + h + ", " + set, x, NONE, () -> x.feast(h, set));
    }

    static void feastOfWhatItHas() {
        // it has a till its end; b costs 5, which a saver of 1 a month has in month 5
        int[][] wants = {{4, 6, 6}, {5, 6, 6}, {6, 5, 5}, {9, 5, 5}};
        for (int[] want : wants) {
            ColourCoupons x = Checks.townOf("a1" + want[0] + ";b51;S1;H0;");
            x.buy(0, 0);
            Checks.tells("it ends in " + want[0], x, x.feast(0, 3), want[1], want[2]);
            Checks.tells("what it has", x, x.feast(0, 1), 0, 0);
        }
        ColourCoupons x = Checks.townOf("a12;b51;H4;S0;");
        x.buy(0, 0);
        Checks.leaves("without b", x, NONE, () -> x.feast(0, 2));
        x.month();
        Checks.tells("a is still there", x, x.feast(0, 1), 0, 0);
        x.month();
        Checks.tells("a is gone", x, x.feast(0, 1), 0, 1);
        x.buy(0, 0);
        Checks.tells("what another one has is not its own", x, x.feast(1, 0), 0, 0);
        Checks.leaves("what another one has is not its own", x, NONE, () -> x.feast(1, 1));
    }

    static void feastInSixty() {
        // 61 is there in 60 months, 62 is not
        ColourCoupons x = Checks.townOf("a91;b91;c91;d91;e91;f91;g71;h81;S1;S0;");
        Checks.tells("in 60", x, x.feast(0, 63 + 64), 60, 61);
        Checks.leaves("in 61", x, NONE, () -> x.feast(0, 63 + 128));
        ColourCoupons y = Checks.townOf("a91;b91;c91;d91;e91;f91;g61;h81;S1;S0;");
        Checks.tells("in 59", y, y.feast(0, 63 + 64), 59, 60);
        x.month();
        Checks.tells("in 61, a month on", x, x.feast(0, 63 + 128), 60, 62);
    }

    /** What comes is told, and nothing done. */
    static void aside() {
        ColourCoupons x = Twins.made(Twins::busy);
        long before = x.digest();
        x.next();
        x.fades(60);
        x.later(0, 60);
        x.soon(1, 0);
        x.feast(1, 7);
        for (int order = 0; order < 4; order++) x.shop(1, order);
        x.best(1);
        x.duel(3);
        Checks.due("nothing is done", x.digest(), before);
        Checks.due("no deeds", x.count(3), 8);
    }

    static void shopRefused() {
        for (int no : NO_HOUSES) bad("shop, no house " + no, x -> x.shop(no, 0));
        for (int no : new int[] {-1, 4, LEAST, MOST}) bad("shop by no order " + no, x -> x.shop(0, no));
        for (int no : NO_HOUSES) bad("best, no house " + no, x -> x.best(no));
    }

    static void shopToTheLastCoupon() {
        for (int order = 0; order < 4; order++) {
            ColourCoupons x = Checks.townOf("a41;b51;H9;H8;H4;H3;H0;H5;");
            Checks.tells("just enough for both", x, x.shop(0, order), 3, 0);
            Checks.tells("one too few", x, x.shop(1, order), order == 2 ? 2 : 1, order == 2 ? 3 : 4);
            Checks.tells("just enough for one", x, x.shop(2, order), 1, 0);
            Checks.tells("for none", x, x.shop(3, order), 0, 3);
            Checks.tells("of nothing", x, x.shop(4, order), 0, 0);
            Checks.tells("five", x, x.shop(5, order), order == 2 ? 2 : 1, order == 2 ? 0 : 1);
        }
        ColourCoupons x = Checks.townOf("a11;b11;c11;d11;e11;f11;g11;h11;H8;H7;");
        for (int order = 0; order < 4; order++) {
            Checks.tells("all eight", x, x.shop(0, order), 255, 0);
            Checks.tells("seven", x, x.shop(1, order), 127, 0);
        }
        x.buy(0, 2);
        for (int order = 0; order < 4; order++) Checks.tells("what it has not", x, x.shop(0, order), 251, 0);
    }

    static void shopOrders() {
        // pays 3 2 4 1, has it for 1 9 8 3: for a coupon 1/3, 9/2, 2, 3
        ColourCoupons x = Checks.townOf("a31;b29;c48;d13;H5;H1;");
        Checks.tells("by numbers", x, x.shop(0, 0), 1 + 2, 0);
        Checks.tells("least first", x, x.shop(0, 1), 8 + 2, 2);
        Checks.tells("most first", x, x.shop(0, 2), 4 + 8, 0);
        Checks.tells("most months for a coupon first", x, x.shop(0, 3), 2 + 8, 2);
        for (int order = 0; order < 4; order++) Checks.tells("on to what it can pay", x, x.shop(1, order), 8, 0);
        ColourCoupons y = Checks.townOf("a24;b11;c39;H4;H3;");
        // for a coupon 2, 1, 3
        Checks.tells("by numbers", y, y.shop(0, 0), 1 + 2, 1);
        Checks.tells("least first", y, y.shop(0, 1), 2 + 1, 1);
        Checks.tells("most first", y, y.shop(0, 2), 4 + 2, 0);
        Checks.tells("most months for a coupon first", y, y.shop(0, 3), 4 + 2, 0);
        Checks.tells("most months for a coupon first", y, y.shop(1, 3), 4, 0);
        Checks.tells("by numbers", y, y.shop(1, 0), 1 + 2, 0);
    }

    static void shopLikeOnes() {
        ColourCoupons x = Checks.townOf("a22;b22;c22;H4;H2;");
        for (int order = 0; order < 4; order++) {
            Checks.tells("the lowest", x, x.shop(1, order), 1, 0);
            Checks.tells("the lowest two", x, x.shop(0, order), 3, 0);
        }
        x.buy(1, 0);
        x.month();
        for (int order = 0; order < 4; order++) Checks.tells("the lowest that it has not", x, x.shop(1, order), 2, 0);
    }

    static void shopFractions() {
        int[][] pairs = {{2, 1, 6, 3, 0}, {6, 3, 2, 1, 0}, {7, 9, 6, 8, 0}, {6, 8, 7, 9, 1}, {8, 9, 7, 8, 0}, {7, 8, 8, 9, 1},
            {9, 7, 4, 3, 1}, {5, 4, 9, 7, 1}, {9, 7, 5, 4, 0}, {1, 9, 1, 8, 1}, {9, 1, 8, 1, 0}, {8, 1, 9, 1, 1}};
        for (int[] p : pairs) {
            // coupons for just the dearer one, so that the first one by order is got, and the other one may be left
            ColourCoupons x = Checks.townOf("a" + p[1] + p[0] + ";b" + p[3] + p[2] + ";H" + Math.max(p[1], p[3]) + ";H0;");
            int got = x.shop(0, 3);
            Checks.due(p[0] + "/" + p[1] + " and " + p[2] + "/" + p[3], got >> p[4] & 1, 1);
            if (p[1] + p[3] > Math.max(p[1], p[3])) Checks.due("only that one", got, 1 << p[4]);
        }
        // a blind one pays less and has it longer: 3/1 and 6/4; a widow 4/2 and 7/9
        ColourCoupons x = Checks.townOf("a12;b55;B4;W9;M9;");
        Checks.tells("blind", x, x.shop(0, 3), 1, 3);
        Checks.tells("blind, most first", x, x.shop(0, 2), 2, 0);
        Checks.tells("widow", x, x.shop(1, 3), 1, 7);
        Checks.tells("widow, most first", x, x.shop(1, 2), 2, 0);
        Checks.tells("mourner", x, x.shop(2, 2), 1, 7);
    }

    static void best() {
        ColourCoupons x = Checks.townOf("a71;b31;c31;H6;H7;H9;H0;H2;H3;");
        Checks.tells("two by numbers, too", x, x.best(0), 0, 2);
        Checks.tells("one by numbers, two least first", x, x.best(1), 1, 2);
        Checks.tells("nine", x, x.best(2), 1, 2);
        Checks.tells("none by any", x, x.best(3), 0, 0);
        Checks.tells("none by any", x, x.best(4), 0, 0);
        Checks.tells("one by any", x, x.best(5), 0, 1);
        // of four coupons one is left behind the 3, by numbers; none behind 2 and 2
        ColourCoupons y = Checks.townOf("a31;b21;c21;H4;H9;");
        Checks.tells("least first", y, y.best(0), 1, 2);
        Checks.tells("all by any", y, y.best(1), 0, 3);
        y.buy(1, 0);
        y.buy(1, 1);
        Checks.tells("the one that it has not", y, y.best(1), 0, 1);
        y.buy(1, 2);
        Checks.tells("it has all", y, y.best(1), 0, 0);
    }

    static void duelRefused() {
        for (int no : new int[] {-1, 4, LEAST, MOST}) bad("duel of " + no, x -> x.duel(no));
        for (int n = 0; n <= 3; n++) {
            int turns = n;
            Twins.leaves("duel without houses", Twins::bare, Checks.STATE, x -> x.duel(turns));
            Twins.leaves("duel without houses, new", x -> { }, Checks.STATE, x -> x.duel(turns));
            Checks.due("duel of " + n, Twins.made(Twins::busy).duel(turns) >= 0 ? 1 : 0, 1);
        }
    }

    static void duelNothing() {
        ColourCoupons x = Checks.townOf("a11;H9;H9;");
        for (int n = 0; n <= 3; n++) Checks.due("as many as there are", x.duel(n), 2);
        x.buy(0, 0);
        x.buy(1, 0);
        for (int n = 0; n <= 3; n++) Checks.due("all have all", x.duel(n), 0);
        ColourCoupons y = Checks.townOf("a91;H0;H0;");
        for (int n = 0; n <= 3; n++) Checks.due("out of reach", y.duel(n), 0);
    }

    static void duelAtNinetyNine() {
        // a mourner with 99 gets five (4 of 16, 1 of 18); with 100 it would get six
        ColourCoupons x = Checks.townOf("a81;b81;c81;d81;e91;f91;g91;h91;M9;S9;S9;");
        for (int i = 0; i < 5; i++) x.month();
        for (int i = 0; i < 10; i++) x.lend(1 + i % 2, 0, 9);
        Checks.tells("99", x, x.house(0, 2), 1, 99);
        Checks.tells("savers have 9, for one", x, x.house(1, 2), 1, 9);
        for (int n = 0; n <= 3; n++) Checks.due("99 at most", x.duel(n), 7);
        x.lend(0, 1, 1);
        for (int n = 0; n <= 3; n++) Checks.due("98 and 1", x.duel(n), 7);
    }

    static void duelTurns() {
        // each needs one more than it has
        ColourCoupons x = Checks.townOf("a31;H2;H2;");
        int[] gets = {0, 1, 0, 1};
        for (int n = 0; n <= 3; n++) Checks.due("by turns " + n, x.duel(n), gets[n]);
        // each has just enough
        ColourCoupons y = Checks.townOf("a31;H3;H3;");
        int[] keeps = {2, 2, 1, 2};
        for (int n = 0; n <= 3; n++) Checks.due("by turns " + n, y.duel(n), keeps[n]);
        // one more than enough is safe from one who takes one
        ColourCoupons z = Checks.townOf("a31;H4;H4;");
        for (int n = 0; n <= 3; n++) Checks.due("by turns " + n, z.duel(n), 2);
        // the first one makes the only house with just enough safe
        ColourCoupons w = Checks.townOf("a31;H3;H4;");
        for (int n = 0; n <= 3; n++) Checks.due("by turns " + n, w.duel(n), 2);
        // two short: only if it is given twice, and it is taken in between
        ColourCoupons v = Checks.townOf("a31;H1;H0;");
        for (int n = 0; n <= 3; n++) Checks.due("by turns " + n, v.duel(n), 0);
    }
}

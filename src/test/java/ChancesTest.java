/** Promises 36 to 38: odds, means, days by lots. */
public final class ChancesTest {
    public static void main(String[] args) {
        odds();
        oddsRefused();
        mid();
        lots();
        lotsRefused();
        lotsByHand();
        lotsThatCannotLend();
        Checks.end();
    }

    static void odds() {
        ColourCoupons x = Checks.townOf("a11;H3;S2;");
        long before = x.digest();
        // behind 2: house 3 or 0, saver 6 or 2
        Checks.fraction("2", x, x.odds(2, 2, 3), 1, 1);
        Checks.fraction("3", x, x.odds(3, 2, 3), 15, 16);
        Checks.fraction("5", x, x.odds(5, 2, 3), 15, 16);
        Checks.fraction("6", x, x.odds(6, 2, 3), 3, 4);
        Checks.fraction("7", x, x.odds(7, 2, 3), 9, 16);
        Checks.fraction("9", x, x.odds(9, 2, 3), 9, 16);
        Checks.fraction("9", x, x.odds(9, 2, 5), 49, 144);
        Checks.fraction("10", x, x.odds(10, 2, 3), 0, 1);
        Checks.fraction("now", x, x.odds(5, 0, 12), 1, 1);
        Checks.fraction("now", x, x.odds(6, 0, 0), 0, 1);
        Checks.fraction("all go without", x, x.odds(3, 1, 12), 0, 1);
        Checks.fraction("none goes without", x, x.odds(9, 2, 0), 1, 1);
        Checks.fraction("0 or more", x, x.odds(0, 20, 7), 1, 1);
        Checks.fraction("600", x, x.odds(600, 20, 7), 0, 1);
        Checks.due("nothing is done", x.digest(), before);
        ColourCoupons y = Checks.townOf("a11;H1;H1;H1;H1;H1;H1;");
        Checks.fraction("six", y, y.odds(6, 1, 11), 1, 2985984);
        Checks.fraction("one of six", y, y.odds(1, 1, 11), 2985984 - 1771561, 2985984);
        Checks.fraction("five of six", y, y.odds(5, 1, 11), 67, 2985984);
        ColourCoupons z = Checks.townOf("a11;W9;I9;");
        // behind 1: widow 13 or 4, miser 19 or 10
        Checks.fraction("widow, miser", z, z.odds(23, 1, 6), 3, 4);
        Checks.fraction("widow, miser", z, z.odds(24, 1, 6), 1, 4);
    }

    static void oddsRefused() {
        ColourCoupons x = new ColourCoupons();
        Checks.leaves("no houses", x, Checks.STATE, () -> x.odds(0, 0, 0));
        Checks.leaves("no houses", x, Checks.STATE, () -> x.mid(0, 0));
        Checks.leaves("k -1", x, Checks.BAD, () -> x.odds(-1, 0, 0));
        Checks.leaves("k 601", x, Checks.BAD, () -> x.odds(601, 0, 0));
        Checks.leaves("n -1", x, Checks.BAD, () -> x.odds(0, -1, 0));
        Checks.leaves("n 21", x, Checks.BAD, () -> x.odds(0, 21, 0));
        Checks.leaves("p -1", x, Checks.BAD, () -> x.odds(0, 0, -1));
        Checks.leaves("p 13", x, Checks.BAD, () -> x.odds(0, 0, 13));
        Checks.leaves("n -1", x, Checks.BAD, () -> x.mid(-1, 0));
        Checks.leaves("n 21", x, Checks.BAD, () -> x.mid(21, 0));
        Checks.leaves("p -1", x, Checks.BAD, () -> x.mid(0, -1));
        Checks.leaves("p 13", x, Checks.BAD, () -> x.mid(0, 13));
        Checks.due("upper", x.upper(), 0);
        Checks.due("lower", x.lower(), 1);
    }

    static void mid() {
        ColourCoupons x = Checks.townOf("a11;H3;S2;");
        Checks.fraction("now", x, x.mid(0, 5), 5, 1);
        Checks.fraction("none", x, x.mid(2, 0), 9, 1);
        Checks.fraction("all", x, x.mid(2, 12), 2, 1);
        Checks.fraction("of 12", x, x.mid(2, 1), 101, 12);
        Checks.fraction("of 4", x, x.mid(2, 3), 29, 4);
        Checks.leaves("refused", x, Checks.BAD, () -> x.mid(2, 13));
        Checks.due("stays", x.upper(), 29);
        Checks.due("stays", x.lower(), 4);
        ColourCoupons y = Checks.townOf("a11;H3;H2;");
        Checks.fraction("nothing", y, y.mid(1, 12), 0, 1);
    }

    static void lots() {
        String town = "a23;b12;c31;H9;S7;I9;";
        for (int seed = 1; seed < 400; seed += 7) {
            ColourCoupons x = Checks.townOf(town);
            ColourCoupons y = Checks.townOf(town);
            int n = 1 + seed % 20;
            long lot = seed;
            int idle = 0;
            for (int i = 0; i < n; i++) {
                lot = lot * 48271L % 2147483647L;
                int h = (int) (lot / 8 % 3);
                int way = (int) (lot % 8);
                int did = way < 2 ? y.month() : way == 2 ? y.lend(h, (h + 1) % 3, 1) : y.buy(h, (int) (lot / 64 % 3));
                if (did < 0) idle++;
            }
            Checks.due("lots of " + seed, x.lots(n, seed), y.count(4));
            Checks.due("deeds", x.count(3), n);
            Checks.due("true deeds", y.count(3), n - idle);
            for (int what = 0; what <= 5; what++) {
                if (what != 3) Checks.due("count " + what, x.count(what), y.count(what));
            }
            for (int h = 0; h < 3; h++) {
                for (int c = 0; c < 3; c++) Checks.due("thing", x.thing(h, c), y.thing(h, c));
            }
        }
    }

    static void lotsRefused() {
        ColourCoupons none = new ColourCoupons();
        Checks.leaves("no houses", none, Checks.STATE, () -> none.lots(1, 1));
        Checks.leaves("n 0", none, Checks.BAD, () -> none.lots(0, 1));
        Checks.leaves("n 21", none, Checks.BAD, () -> none.lots(21, 1));
        Checks.leaves("seed 0", none, Checks.BAD, () -> none.lots(1, 0));
        Checks.leaves("seed -1", none, Checks.BAD, () -> none.lots(1, -1));
        Checks.leaves("seed 2147483647", none, Checks.BAD, () -> none.lots(1, 2147483647));
        ColourCoupons x = Checks.townOf("a23;b12;c31;H9;S7;I9;");
        Checks.due("greatest seed", x.lots(20, 2147483646) >= 0 ? 1 : 0, 1);
        Checks.due("one more", x.lots(1, 5) >= 0 ? 1 : 0, 1);
        Checks.leaves("20 more", x, Checks.FULL, () -> x.lots(20, 5));
        Checks.leaves("bad ahead", x, Checks.BAD, () -> x.lots(21, 5));
        Checks.due("19 more", x.lots(19, 5) >= 0 ? 1 : 0, 1);
        Checks.due("deeds", x.count(3), 40);
        Checks.due("undone", x.undo(0), 40);
    }

    static void lotsThatCannotLend() {
        // seed 6 has the second house lend the first one 1
        ColourCoupons x = Checks.townOf("a13;b14;S9;H1;");
        x.lots(1, 6);
        Checks.due("its last one", x.later(1, 0), 0);
        x.lots(1, 6);
        Checks.due("none left", x.later(1, 0), 0);
        Checks.due("deeds", x.count(3), 2);
        for (int i = 0; i < 20; i++) x.month();
        Checks.due("full purse", x.later(0, 0), 99);
        x.lots(1, 6);
        Checks.due("no more than 99", x.later(0, 0), 99);
        Checks.due("not lent", x.later(1, 0), 1);
        Checks.due("deeds", x.count(3), 23);
    }

    static void lotsByHand() {
        // seed 1: 48271 = 8 * 6033 + 7: house 6033 modulo 2 = 1 buys colour 754 modulo 2 = 0
        ColourCoupons x = Checks.townOf("a13;b14;H9;H9;");
        Checks.due("buys", x.lots(1, 1), 1);
        Checks.due("thing", x.thing(1, 0), 3);
        // seed 2: 96542 = 8 * 12067 + 6: house 1 buys colour 1508 modulo 2 = 0, which it has
        Checks.due("a deed of nothing", x.lots(1, 2), 1);
        Checks.due("deeds", x.count(3), 2);
        // seed 6: 289626 = 8 * 36203 + 2: house 1 lends the first one 1
        Checks.due("lends", x.lots(1, 6), 1);
        Checks.due("lender", x.later(1, 0), 7);
        Checks.due("other", x.later(0, 0), 10);
        // seed 8: 386168 = 8 * 48271: a month
        Checks.due("month", x.lots(1, 8), 1);
        Checks.due("month", x.count(2), 1);
        // seed 7: 337897 = 8 * 42237 + 1: a month
        Checks.due("month", x.lots(1, 7), 1);
        Checks.due("month", x.count(2), 2);
        Checks.due("month", x.lots(1, 7), 0);
    }
}

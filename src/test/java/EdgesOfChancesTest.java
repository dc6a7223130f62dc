import java.math.BigInteger;

/** Promises 36 to 38 at their edges: odds, means, days by lots. */
public final class EdgesOfChancesTest {
    private static final int LEAST = Integer.MIN_VALUE, MOST = Integer.MAX_VALUE;

    public static void main(String[] args) {
        oddsRefused();
        oddsOrMore();
        oddsOfTheFullest();
        oddsOfAllAndNone();
        oddsInLowestTerms();
        oddsFromNowOn();
        midRefused();
        midOfNothing();
        midInLowestTerms();
        midOfTwenty();
        lotsRefused();
        lotsUpToForty();
        lotsOfTheGreatestSeed();
        lotsThatBuy();
        lotsThatLend();
        lotsOfMonths();
        lotsAreTrueDeeds();
        Checks.end();
    }

    static void bad(String what, Twins.Call call) {
        Twins.leaves(what, Twins::busy, Checks.BAD, call);
        Twins.leaves(what + ", ahead of STATE", Twins::bare, Checks.BAD, call);
    }

    static void noHouses(String what, Twins.Call call) {
        Twins.leaves(what + ", no houses", Twins::bare, Checks.STATE, call);
        Twins.leaves(what + ", new", x -> { }, Checks.STATE, call);
    }

    static void oddsRefused() {
        for (int no : new int[] {-1, 601, LEAST, MOST}) bad("odds of " + no, x -> x.odds(no, 0, 0));
        for (int no : new int[] {-1, 21, LEAST, MOST}) bad("odds in " + no, x -> x.odds(0, no, 0));
        for (int no : new int[] {-1, 13, LEAST, MOST}) bad("odds by " + no, x -> x.odds(0, 0, no));
        noHouses("odds", x -> x.odds(0, 0, 0));
        noHouses("odds", x -> x.odds(600, 20, 12));
        for (int k : new int[] {0, 600}) {
            for (int n : new int[] {0, 20}) {
                for (int p : new int[] {0, 12}) {
                    ColourCoupons x = Twins.made(Twins::busy);
                    long before = x.digest();
                    int told = x.asked();
                    Checks.fraction("odds " + k + ", " + n + ", " + p, x, x.odds(k, n, p), k == 0 ? 1 : 0, 1);
                    Checks.due("nothing is done", x.digest(), before);
                    Checks.due("asked() stays", x.asked(), told);
                }
            }
        }
    }

    static void oddsOrMore() {
        ColourCoupons x = Checks.townOf("a11;H7;H2;");
        for (int k = 0; k <= 10; k++) {
            Checks.fraction("now " + k, x, x.odds(k, 0, 6), k <= 9 ? 1 : 0, 1);
            int ways = (k <= 9 ? 1 : 0) + (k <= 7 ? 1 : 0) + (k <= 2 ? 1 : 0) + (k == 0 ? 1 : 0);
            int lower = ways == 4 || ways == 0 ? 1 : ways == 2 ? 2 : 4;
            Checks.fraction("in a month " + k, x, x.odds(k, 1, 6), ways * lower / 4, lower);
        }
    }

    static void oddsOfTheFullest() {
        ColourCoupons x = Checks.townOf("a11;S9;S9;S9;S9;S9;S9;");
        for (int i = 0; i < 10; i++) x.month();
        Checks.due("all purses", x.count(5), 594);
        for (int n : new int[] {0, 1, 20}) {
            Checks.fraction("594", x, x.odds(594, n, 7), 1, 1);
            Checks.fraction("595", x, x.odds(595, n, 7), 0, 1);
            Checks.fraction("600", x, x.odds(600, n, 7), 0, 1);
        }
        ColourCoupons y = Checks.townOf("a11;S9;S9;S9;S9;S9;S9;");
        // in 20 months each has 99, or 9
        for (int many = 0; many <= 6; many++) {
            long ways = 0;
            long[] choose = {1, 6, 15, 20, 15, 6, 1};
            for (int i = many; i <= 6; i++) ways += choose[i] * power(5, i) * power(7, 6 - i);
            long divisor = BigInteger.valueOf(ways).gcd(BigInteger.valueOf(2985984)).longValue();
            int sum = 54 + 90 * many;
            Checks.fraction("just " + sum, y, y.odds(sum, 20, 7), ways / divisor, 2985984 / divisor);
            if (many > 0) Checks.fraction("below " + sum, y, y.odds(sum - 89, 20, 7), ways / divisor, 2985984 / divisor);
        }
        Checks.fraction("595", y, y.odds(595, 20, 0), 0, 1);
    }

    static long power(long base, int n) {
        long all = 1;
        for (int i = 0; i < n; i++) all *= base;
        return all;
    }

    static void oddsOfAllAndNone() {
        ColourCoupons x = Checks.townOf("a11;H7;H2;");
        Checks.fraction("none goes without", x, x.odds(9, 1, 0), 1, 1);
        Checks.fraction("none goes without", x, x.odds(10, 1, 0), 0, 1);
        Checks.fraction("all go without", x, x.odds(0, 1, 12), 1, 1);
        Checks.fraction("all go without", x, x.odds(1, 1, 12), 0, 1);
        Checks.fraction("nearly none", x, x.odds(9, 1, 1), 121, 144);
        Checks.fraction("nearly all", x, x.odds(1, 1, 11), 23, 144);
    }

    static void oddsInLowestTerms() {
        ColourCoupons x = Checks.townOf("a11;H1;H1;");
        // both get theirs by (12 - p) (12 - p) of 144
        long[][] both = {{1, 1}, {121, 144}, {25, 36}, {9, 16}, {4, 9}, {49, 144}, {1, 4}, {25, 144}, {1, 9}, {1, 16}, {1, 36},
            {1, 144}, {0, 1}};
        for (int p = 0; p <= 12; p++) Checks.fraction("by " + p, x, x.odds(2, 1, p), both[p][0], both[p][1]);
    }

    /** A saver that goes without keeps what it has, a miser has a fifth more, a widow half of it. */
    static void oddsFromNowOn() {
        ColourCoupons x = Checks.townOf("a11;S6;H0;");
        Checks.fraction("saver with", x, x.odds(18, 2, 3), 3, 4);
        Checks.fraction("saver without", x, x.odds(6, 2, 3), 1, 1);
        Checks.fraction("for good, or not at all", x, x.odds(7, 2, 3), 3, 4);
        Checks.fraction("for good, or not at all", x, x.odds(12, 20, 3), 3, 4);
        ColourCoupons y = Checks.townOf("a11;I9;W9;");
        // in 1: 19 or 10, 13 or 4; in 2: 31 or 12, 15 or 2
        Checks.fraction("both with", y, y.odds(46, 2, 6), 1, 4);
        Checks.fraction("miser with", y, y.odds(33, 2, 6), 1, 2);
        Checks.fraction("widow with", y, y.odds(27, 2, 6), 3, 4);
        Checks.fraction("both without", y, y.odds(14, 2, 6), 1, 1);
        Checks.fraction("more than both without", y, y.odds(15, 2, 6), 3, 4);
    }

    static void midRefused() {
        for (int no : new int[] {-1, 21, LEAST, MOST}) bad("mid in " + no, x -> x.mid(no, 0));
        for (int no : new int[] {-1, 13, LEAST, MOST}) bad("mid by " + no, x -> x.mid(0, no));
        noHouses("mid", x -> x.mid(0, 0));
        noHouses("mid", x -> x.mid(20, 12));
        for (int n : new int[] {0, 20}) {
            for (int p : new int[] {0, 12}) {
                ColourCoupons x = Twins.made(Twins::busy);
                long before = x.digest();
                int told = x.asked();
                Checks.due("mid " + n + ", " + p, x.mid(n, p), 1);
                Checks.due("nothing is done", x.digest(), before);
                Checks.due("asked() stays", x.asked(), told);
            }
        }
    }

    static void midOfNothing() {
        ColourCoupons x = Checks.townOf("a11;H0;H0;");
        x.odds(0, 0, 0);
        Checks.fraction("nothing", x, x.mid(0, 5), 0, 1);
        ColourCoupons y = Checks.townOf("a11;H9;H9;");
        Checks.fraction("all go without", y, y.mid(1, 12), 0, 1);
        Checks.fraction("none goes without", y, y.mid(1, 0), 18, 1);
        Checks.fraction("now", y, y.mid(0, 12), 18, 1);
    }

    static void midInLowestTerms() {
        ColourCoupons x = Checks.townOf("a11;H1;H0;");
        long[][] want = {{1, 1}, {11, 12}, {5, 6}, {3, 4}, {2, 3}, {7, 12}, {1, 2}, {5, 12}, {1, 3}, {1, 4}, {1, 6}, {1, 12}, {0, 1}};
        for (int p = 0; p <= 12; p++) Checks.fraction("by " + p, x, x.mid(1, p), want[p][0], want[p][1]);
    }

    static void midOfTwenty() {
        ColourCoupons x = Checks.townOf("a11;S1;I9;W9;S9;");
        // with: 21, 99, 17, 99; without: 1, a miser of 9 (10 12 14 16 19 22 26 31 37 44 52 62 74 88 99 ..), 0, 9
        Checks.fraction("with", x, x.mid(20, 0), 21 + 99 + 17 + 99, 1);
        Checks.fraction("without", x, x.mid(20, 12), 1 + 99 + 0 + 9, 1);
        Checks.fraction("half and half", x, x.mid(20, 6), 236 + 109, 2);
        Checks.fraction("by 5", x, x.mid(20, 5), 7 * 236 + 5 * 109, 12);
    }

    static void lotsRefused() {
        for (int no : new int[] {0, -1, 21, LEAST, MOST}) bad("lots of " + no, x -> x.lots(no, 1));
        for (int no : new int[] {0, -1, 2147483647, LEAST}) bad("lots by " + no, x -> x.lots(1, no));
        noHouses("lots", x -> x.lots(1, 1));
        noHouses("lots", x -> x.lots(20, 2147483646));
        for (int n : new int[] {1, 20}) {
            for (int seed : new int[] {1, 2147483646}) {
                ColourCoupons x = Twins.made(Twins::busy);
                int told = x.asked();
                Checks.due("lots", x.lots(n, seed), x.count(4));
                Checks.due("deeds", x.count(3), 8 + n);
                Checks.due("lots tell nothing", x.asked(), told);
            }
        }
    }

    static void withDeeds(ColourCoupons x, int n) {
        Twins.bare(x);
        Checks.write(x, 0, "a23;b12;c31;H9;S7;I9;");
        x.town(0);
        for (int i = 0; i < n; i++) x.month();
    }

    static void lotsUpToForty() {
        for (int done : new int[] {20, 21, 30, 39}) {
            int room = 40 - done;
            ColourCoupons x = Twins.made(y -> withDeeds(y, done));
            Checks.due("as many as there is room for", x.lots(room, 5), x.count(4));
            Checks.due("deeds", x.count(3), 40);
            if (room < 20) {
                Twins.leaves("one more", y -> withDeeds(y, done), Checks.FULL, y -> y.lots(room + 1, 5));
                Twins.leaves("twenty", y -> withDeeds(y, done), Checks.FULL, y -> y.lots(20, 5));
                Twins.leaves("BAD ahead of FULL", y -> withDeeds(y, done), Checks.BAD, y -> y.lots(21, 5));
                Twins.leaves("BAD ahead of FULL", y -> withDeeds(y, done), Checks.BAD, y -> y.lots(20, 0));
            }
        }
        Twins.leaves("at forty", y -> withDeeds(y, 40), Checks.FULL, y -> y.lots(1, 5));
    }

    static void lotsOfTheGreatestSeed() {
        // 2147483646 times 48271 is 48271 less than the modulus, 2147435376: 0 modulo 8, a month
        ColourCoupons x = Checks.townOf("a19;H9;H9;");
        x.lots(1, 2147483646);
        Checks.due("a month", x.count(2), 1);
        for (int seed : new int[] {1, 2, 44488, 44489, 1073741823, 1073741824, 2147483645, 2147483646}) {
            ColourCoupons a = Checks.townOf("a23;b12;c31;H9;S7;I9;");
            ColourCoupons b = Checks.townOf("a23;b12;c31;H9;S7;I9;");
            BigInteger lot = BigInteger.valueOf(seed);
            for (int i = 0; i < 20; i++) {
                lot = lot.multiply(BigInteger.valueOf(48271)).mod(BigInteger.valueOf(2147483647));
                long it = lot.longValueExact();
                int h = (int) (it / 8 % 3);
                if (it % 8 <= 1) b.month();
                else if (it % 8 == 2) b.lend(h, (h + 1) % 3, 1);
                else b.buy(h, (int) (it / 64 % 3));
            }
            Checks.due("lots of " + seed, a.lots(20, seed), b.count(4));
            Checks.due("month", a.count(2), b.count(2));
            Checks.due("purses", a.count(5), b.count(5));
            for (int h = 0; h < 3; h++) {
                Checks.due("purse", a.later(h, 0), b.later(h, 0));
                for (int c = 0; c < 3; c++) Checks.due("end", a.thing(h, c), b.thing(h, c));
            }
        }
    }

    /** The least seed whose first number is, modulo a modulus, what is wanted. */
    static int seedFor(int modulus, int rest) {
        for (int seed = 1; seed < 100000; seed++) {
            if ((long) seed * 48271 % 2147483647 % modulus == rest) return seed;
        }
        return 0;
    }

    static void lotsThatBuy() {
        for (int rest = 3; rest <= 7; rest++) {
            // of two houses and two colours: the first house (bit 3) buys the second colour (bit 6)
            int seed = seedFor(128, 64 + rest);
            ColourCoupons x = Checks.townOf("a12;b23;H3;H9;");
            Checks.due("buys", x.lots(1, seed), 1);
            Checks.due("end", x.thing(0, 1), 3);
            Checks.due("purse", x.later(0, 0), 1);
            Checks.due("it has it: nothing", x.lots(1, seed), 1);
            Checks.due("purse", x.later(0, 0), 1);
            Checks.due("deeds", x.count(3), 2);
            ColourCoupons y = Checks.townOf("a12;b23;H1;H9;");
            Checks.due("it can't pay: nothing", y.lots(1, seed), 0);
            Checks.due("purse", y.later(0, 0), 1);
            Checks.due("deeds", y.count(3), 1);
            ColourCoupons z = Checks.townOf("a12;b23;H2;H9;");
            Checks.due("it can just pay", z.lots(1, seed), 1);
            Checks.due("purse", z.later(0, 0), 0);
        }
    }

    static void lotsThatLend() {
        int first = seedFor(16, 2);
        int last = seedFor(16, 8 + 2);
        ColourCoupons x = Checks.townOf("a12;H1;S8;");
        Checks.due("lends the next one", x.lots(1, first), 0);
        Checks.due("its last one", x.later(0, 0), 0);
        Checks.due("the next one", x.later(1, 0), 9);
        Checks.due("none to lend: nothing", x.lots(1, first), 0);
        Checks.due("the next one", x.later(1, 0), 9);
        Checks.due("the last one lends the first one", x.lots(1, last), 0);
        Checks.due("the first one", x.later(0, 0), 1);
        Checks.due("the last one", x.later(1, 0), 8);
        Checks.due("deeds", x.count(3), 3);
        ColourCoupons y = Checks.townOf("a12;H1;S9;");
        for (int i = 0; i < 10; i++) y.month();
        Checks.due("the next one has 99: nothing", y.lots(1, first), 0);
        Checks.due("purse", y.later(0, 0), 1);
        y.lots(1, last);
        Checks.due("98", y.later(1, 0), 98);
        y.lots(1, first);
        Checks.due("up to 99", y.later(1, 0), 99);
        Checks.due("purse", y.later(0, 0), 1);
        Checks.due("deeds", y.count(3), 13);
        // the fifth of six houses lends the last one, the last one the first one
        ColourCoupons z = Checks.townOf("a12;H1;H1;H1;H1;H1;H1;");
        z.lots(1, seedFor(48, 8 * 4 + 2));
        Checks.due("the last one", z.later(5, 0), 2);
        z.lots(1, seedFor(48, 8 * 5 + 2));
        Checks.due("the first one", z.later(0, 0), 2);
        Checks.due("the last one", z.later(5, 0), 1);
    }

    static void lotsOfMonths() {
        for (int rest = 0; rest <= 1; rest++) {
            ColourCoupons x = Checks.townOf("a12;H3;S2;");
            x.buy(0, 0);
            int seed = seedFor(8, rest);
            Checks.due("a month", x.lots(1, seed), 1);
            Checks.due("month", x.count(2), 1);
            Checks.due("purses", x.count(5), 3 + 4);
            Checks.due("it fades", x.lots(1, seed), 0);
            Checks.due("month", x.count(2), 2);
        }
    }

    static void lotsAreTrueDeeds() {
        ColourCoupons x = Checks.townOf("a23;b12;c31;H9;S7;I9;");
        x.lots(20, 99);
        ColourCoupons y = Checks.townOf("a23;b12;c31;H9;S7;I9;");
        long[] digests = new long[21];
        digests[0] = y.digest();
        for (int n = 1; n <= 20; n++) {
            ColourCoupons z = Checks.townOf("a23;b12;c31;H9;S7;I9;");
            z.lots(n, 99);
            digests[n] = z.digest();
        }
        for (int n = 20; n >= 0; n--) {
            Checks.due("undone", x.undo(n), n == 20 ? 0 : 1);
            Checks.due("as with so many", x.digest(), digests[n]);
        }
    }
}

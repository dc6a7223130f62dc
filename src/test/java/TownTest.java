/** Promises 10 to 16: faults, towns, colours, houses, things, marks. */
public final class TownTest {
    private static final String SIX = "a11;b55;c99;H9;M8;B7;W9;S5;I6;";

    public static void main(String[] args) {
        faults();
        faultsOfColours();
        faultsOfHouses();
        faultRefused();
        town();
        townAnew();
        colour();
        letter();
        house();
        thing();
        mark();
        markAtTheEdges();
        Checks.end();
    }

    static void fault(String signs, int want) {
        ColourCoupons x = new ColourCoupons();
        Checks.write(x, 2, signs);
        Checks.due("fault of '" + signs + "'", x.fault(2), want);
        int houses = x.town(2);
        Checks.due("town of '" + signs + "'", want == Checks.NONE ? (houses >= 2 ? 1 : 0) : houses, want == Checks.NONE ? 1 : Checks.STATE);
    }

    static void faults() {
        fault("", 0);
        fault("   ", 3);
        fault("r11;H1;S1;", Checks.NONE);
        fault("  r11;   H1;S1;  ", Checks.NONE);
        fault("H0;r11;S9;", Checks.NONE);
        fault("H0;S1;M2;B3;I4;W9;zzzzzzz99;", Checks.NONE);
        fault("a11;b11;c11;d11;e11;f11;g11;h11;H1;H1;H1;H1;H1;H1;", Checks.NONE);
        fault(";", 0);
        fault("1", 0);
        fault(" \t", 1);
        fault(" \0", 1);
        fault("\u00ff", 0);
        fault("`11;", 0);
        fault("{11;", 0);
        fault("r11;;", 4);
    }

    static void faultsOfColours() {
        fault("r", 1);
        fault("r1", 2);
        fault("r11", 3);
        fault("r11;", 4);
        fault("r01;", 1);
        fault("r10;", 2);
        fault("r;", 1);
        fault("r 11;", 1);
        fault("r1 1;", 2);
        fault("r11 ;", 3);
        fault("r111;", 3);
        fault("rE11;", 1);
        fault("r:1;", 1);
        fault("r1/;", 2);
        fault("abcdefg11;H1;H1;", Checks.NONE);
        fault("abcdefgh11;", 7);
        fault("H1;H1;r11;re11;rea11;re22;", 21);
        fault("H1;H1;re11;r11;rea11;", Checks.NONE);
        fault("r11;r0", 4);
        fault("r11;r", 4);
        fault("r11;re", 6);
        fault("abcdefg11;abcdefgh11;", 17);
        fault("a11;b11;c11;d11;e11;f11;g11;h11;i", 32);
        fault("a11;b11;c11;d11;e11;f11;g11;h11;  a11;", 34);
        fault("H1;S1;", 6);
    }

    static void faultsOfHouses() {
        fault("H", 1);
        fault("H1", 2);
        fault("H;", 1);
        fault("Ha;", 1);
        fault("H 1;", 1);
        fault("H1 ;", 2);
        fault("H12;", 2);
        fault("H:;", 1);
        fault("H/;", 1);
        fault("A1;", 0);
        fault("r11;Z1;", 4);
        fault("r11;H1;", 7);
        fault("H1;S1;M1;B1;I1;W1; H1;", 19);
        fault("H1;S1;M1;B1;I1;W1;X1;", 18);
        fault("H1;S1;M1;B1;I1;W1;r11;", Checks.NONE);
    }

    static void faultRefused() {
        ColourCoupons x = new ColourCoupons();
        Checks.leaves("fault 4", x, Checks.BAD, () -> x.fault(4));
        Checks.leaves("fault -1", x, Checks.BAD, () -> x.fault(-1));
        Checks.finds("fault of none", x, Checks.NOTHING, () -> x.fault(3));
        Checks.leaves("town 4", x, Checks.BAD, () -> x.town(4));
        Checks.leaves("town -1", x, Checks.BAD, () -> x.town(-1));
        Checks.finds("town of none", x, Checks.NOTHING, () -> x.town(3));
        Checks.write(x, 3, "H1;S1;");
        Checks.leaves("town with a fault", x, Checks.STATE, () -> x.town(3));
    }

    static void town() {
        ColourCoupons x = new ColourCoupons();
        Checks.write(x, 1, "b11;H3;a22;ab33;W0;aa44;B9;");
        Checks.due("town", x.town(1), 3);
        int[] prices = {2, 4, 3, 1};
        int[] sizes = {1, 2, 2, 1};
        for (int c = 0; c < 4; c++) {
            Checks.tells("price " + c, x, x.colour(c, 0), 1, prices[c]);
            Checks.tells("size " + c, x, x.colour(c, 3), 1, sizes[c]);
        }
        int[] kinds = {0, 5, 3};
        int[] incomes = {3, 0, 9};
        for (int h = 0; h < 3; h++) {
            Checks.tells("kind " + h, x, x.house(h, 0), 1, kinds[h]);
            Checks.tells("income " + h, x, x.house(h, 1), 1, incomes[h]);
            Checks.tells("purse " + h, x, x.house(h, 2), 1, incomes[h]);
            Checks.tells("colours " + h, x, x.house(h, 3), 1, 0);
        }
        Checks.due("houses", x.count(0), 3);
        Checks.due("colours", x.count(1), 4);
    }

    static void townAnew() {
        ColourCoupons x = Checks.townOf(SIX);
        x.buy(0, 0);
        x.keep(1);
        x.month();
        Checks.write(x, 1, "q12;H1;");
        Checks.leaves("a faulty town", x, Checks.STATE, () -> x.town(1));
        Checks.write(x, 1, "q12;H1;S2;");
        Checks.due("another town", x.town(1), 2);
        Checks.due("month", x.count(2), 0);
        Checks.due("deeds", x.count(3), 0);
        Checks.due("things", x.count(4), 0);
        Checks.due("purses", x.count(5), 3);
        Checks.due("kept", x.count(8), 0);
        Checks.finds("kept is gone", x, Checks.NOTHING, () -> x.on(1));
        x.put(1, 0, 'z');
        Checks.due("a text put behind is nothing to it", x.letter(0, 0), 'q');
        Checks.due("the same anew", x.town(0), 6);
        Checks.due("purses", x.count(5), 44);
    }

    static void colour() {
        ColourCoupons x = Checks.townOf(SIX);
        x.buy(0, 0);
        x.buy(4, 0);
        Checks.tells("price", x, x.colour(1, 0), 1, 5);
        Checks.tells("lasts", x, x.colour(2, 1), 1, 9);
        Checks.tells("holders", x, x.colour(0, 2), 1, 2);
        Checks.tells("holders", x, x.colour(1, 2), 1, 0);
        Checks.tells("size", x, x.colour(1, 3), 1, 1);
        Checks.leaves("colour 3", x, Checks.BAD, () -> x.colour(3, 0));
        Checks.leaves("colour -1", x, Checks.BAD, () -> x.colour(-1, 0));
        Checks.leaves("what 4", x, Checks.BAD, () -> x.colour(0, 4));
        Checks.leaves("what -1", x, Checks.BAD, () -> x.colour(0, -1));
    }

    static void letter() {
        ColourCoupons x = Checks.townOf("zebra11;abcdefg22;H1;H1;");
        Checks.due("letter", x.letter(0, 0), 'a');
        Checks.due("letter", x.letter(0, 6), 'g');
        Checks.due("letter", x.letter(1, 0), 'z');
        Checks.due("letter", x.letter(1, 4), 'a');
        Checks.leaves("letter 5", x, Checks.NONE, () -> x.letter(1, 5));
        Checks.leaves("letter 7", x, Checks.NONE, () -> x.letter(0, 7));
        Checks.leaves("letter most", x, Checks.NONE, () -> x.letter(0, Integer.MAX_VALUE));
        Checks.leaves("letter -1", x, Checks.BAD, () -> x.letter(0, -1));
        Checks.leaves("colour 2", x, Checks.BAD, () -> x.letter(2, 0));
        Checks.leaves("colour -1", x, Checks.BAD, () -> x.letter(-1, 0));
    }

    static void house() {
        ColourCoupons x = Checks.townOf(SIX);
        int[] kinds = {0, 2, 3, 5, 1, 4};
        for (int h = 0; h < 6; h++) Checks.tells("kind", x, x.house(h, 0), 1, kinds[h]);
        x.buy(0, 0);
        x.buy(0, 1);
        Checks.tells("income", x, x.house(0, 1), 1, 9);
        Checks.tells("purse", x, x.house(0, 2), 1, 3);
        Checks.tells("colours", x, x.house(0, 3), 1, 3);
        Checks.leaves("house 6", x, Checks.BAD, () -> x.house(6, 0));
        Checks.leaves("house -1", x, Checks.BAD, () -> x.house(-1, 0));
        Checks.leaves("what 4", x, Checks.BAD, () -> x.house(0, 4));
        Checks.leaves("what -1", x, Checks.BAD, () -> x.house(0, -1));
    }

    static void thing() {
        ColourCoupons x = Checks.townOf(SIX);
        Checks.leaves("no thing", x, Checks.NONE, () -> x.thing(0, 0));
        int[] ends = {1, 1, 2, 3, 1, 1};
        int[] costs = {1, 2, 1, 2, 1, 1};
        for (int h = 0; h < 6; h++) {
            x.buy(h, 0);
            Checks.tells("thing " + h, x, x.thing(h, 0), ends[h], costs[h]);
        }
        Checks.due("blind buys", x.buy(2, 1), 2);
        Checks.tells("blind's thing", x, x.thing(2, 1), 6, 4);
        Checks.due("blind's colour stays a month", x.month(), 4);
        Checks.tells("widow's thing", x, x.thing(3, 0), 3, 2);
        Checks.due("widow buys", x.buy(3, 1), 3);
        Checks.tells("widow's thing", x, x.thing(3, 1), 8, 9);
        Checks.leaves("house 6", x, Checks.BAD, () -> x.thing(6, 0));
        Checks.leaves("house -1", x, Checks.BAD, () -> x.thing(-1, 0));
        Checks.leaves("colour 3", x, Checks.BAD, () -> x.thing(0, 3));
        Checks.leaves("colour -1", x, Checks.BAD, () -> x.thing(0, -1));
    }

    static void mark() {
        ColourCoupons x = Checks.townOf("a31;b42;c43;H9;M8;B7;W9;S5;I6;");
        Checks.due("mourner", x.mark(1, 2), 4);
        Checks.due("blind", x.mark(2, 3), 1);
        Checks.due("widow as a mourner", x.mark(3, 2), 4);
        Checks.due("widow", x.mark(3, 5), 0);
        Checks.due("saver", x.mark(4, 1), 5);
        Checks.due("miser as a saver", x.mark(5, 1), 7);
        Checks.due("miser", x.mark(5, 4), 1);
        int[] own = {0, 2, 3, 5, 1, 4};
        for (int h = 0; h < 6; h++) {
            for (int k = 1; k < 6; k++) {
                boolean is = own[h] == k || own[h] == 4 && k == 1 || own[h] == 5 && k == 2;
                int house = h;
                int kind = k;
                if (!is) Checks.finds("mark " + h + ", " + k, x, Checks.UNLIKE, () -> x.mark(house, kind));
            }
        }
        Checks.leaves("kind 0", x, Checks.BAD, () -> x.mark(0, 0));
        Checks.leaves("kind 6", x, Checks.BAD, () -> x.mark(0, 6));
        Checks.leaves("kind -1", x, Checks.BAD, () -> x.mark(0, -1));
        Checks.leaves("house 6", x, Checks.BAD, () -> x.mark(6, 1));
        Checks.leaves("house -1", x, Checks.BAD, () -> x.mark(-1, 1));
    }

    static void markAtTheEdges() {
        ColourCoupons x = Checks.townOf("a19;B1;W1;M1;I9;S9;");
        Checks.due("blind pays 1 at least", x.mark(0, 3), 0);
        Checks.due("widow below 9", x.mark(1, 5), 0);
        Checks.due("mourner", x.mark(2, 2), 1);
        for (int i = 0; i < 5; i++) x.month();
        Checks.tells("miser's purse", x, x.house(3, 2), 1, 85);
        Checks.due("miser, 99 at most", x.mark(3, 1), 90);
        Checks.due("miser, 99 at most", x.mark(3, 4), 5);
        Checks.due("saver", x.mark(4, 1), 54);
        ColourCoupons y = Checks.townOf("a19;b99;W1;M1;");
        Checks.due("widow, 9 at most", y.mark(0, 2), 0);
        Checks.due("widow, 9 at most", y.mark(0, 5), 9);
        Checks.due("mourner", y.mark(1, 2), 9);
    }
}

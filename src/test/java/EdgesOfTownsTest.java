/** Promises 10 to 16, and what the terms say of towns and kinds, at their edges. */
public final class EdgesOfTownsTest {
    private static final int LEAST = Integer.MIN_VALUE, MOST = Integer.MAX_VALUE;
    private static final int[] NO_TEXTS = {-1, 4, LEAST, MOST};
    private static final int NONE = Checks.NONE;
    private static final String EIGHT = "a11;b12;c13;d14;e15;f16;g17;h18;";
    private static final String SIX = "H1;S2;M3;B4;I5;W6;";

    public static void main(String[] args) {
        faultOfBlanks();
        faultWithinItems();
        faultOfNames();
        faultOfNamesToldAlready();
        faultOfHowManyColours();
        faultOfFigures();
        faultOfSigns();
        faultOfHouses();
        faultOfHowManyHouses();
        faultOfAnEarlyEnd();
        faultIsTheFirst();
        faultAtFullSize();
        faultRefused();
        townHowMany();
        townAnew();
        townRefused();
        orderOfNames();
        whatKindsPay();
        howLongKindsHave();
        whatKindsKeep();
        whatMisersAndWidowsCut();
        colour();
        letter();
        house();
        thing();
        markOfKinds();
        markOfTheDearest();
        markAtNinetyNine();
        markRefused();
        Checks.end();
    }

    static void fault(String signs, int want) {
        ColourCoupons x = new ColourCoupons();
        Checks.write(x, 2, signs);
        Checks.due("fault of '" + signs + "'", x.fault(2), want);
        Checks.due("asked() stays", x.asked(), 0);
        int houses = x.town(2);
        if (want != NONE) Checks.due("town of '" + signs + "'", houses, Checks.STATE);
        else Checks.due("town of '" + signs + "'", houses, x.count(0));
    }

    static void bad(String what, Twins.Call call) {
        Twins.leaves(what, Twins::busy, Checks.BAD, call);
    }

    static void faultOfBlanks() {
        fault("r11;H1;S1;", NONE);
        fault(" r11;H1;S1;", NONE);
        fault("r11;H1;S1; ", NONE);
        fault("r11; H1; S1;", NONE);
        fault("      r11;      H1;      S1;      ", NONE);
        for (char c : new char[] {0, 9, 10, 13, 31, 33, 160, 255}) {
            fault(c + "r11;H1;S1;", 0);
            fault("r11;" + c + "H1;S1;", 4);
            fault("r11;H1;S1;" + c, 10);
        }
    }

    static void faultWithinItems() {
        fault("H1;H1;re11;", NONE);
        fault("H1;H1;r e11;", 7);
        fault("H1;H1;re 11;", 8);
        fault("H1;H1;re1 1;", 9);
        fault("H1;H1;re11 ;", 10);
        fault("H1;r11;H 1;", 8);
        fault("H1;r11;H1 ;", 9);
    }

    static void faultOfNames() {
        fault("H1;H1;a11;z11;", NONE);
        fault("H1;H1;abcdefg11;", NONE);
        fault("H1;H1;zzzzzzz11;", NONE);
        fault("H1;H1;abcdefgh11;", 13);
        fault("H1;H1;abcdefghi11;", 13);
        fault("H1;H1;11;", 6);
        fault("H1;H1;;", 6);
        for (char c : new char[] {'`', '{', 'A', 'Z', '@', '[', 0, 127, 128, 225, 255}) {
            fault("H1;H1;" + c + "11;", 6);
            fault("H1;H1;r" + c + "11;", 7);
            fault("H1;H1;rrrrrrr" + c + "11;", 13);
        }
    }

    static void faultOfNamesToldAlready() {
        fault("H1;H1;r11;r11;", 10);
        fault("H1;H1;r11;r22;", 10);
        fault("H1;H1;r11;  r11;", 12);
        fault("H1;H1;r11;b11;r11;", 14);
        fault("H1;H1;r11;b11;b11;", 14);
        fault("H1;H1;abcdefg11;abcdefg11;", 16);
        fault("H1;H1;abcdefg11;abcdefh11;", NONE);
        fault("H1;H1;abcdefg11;abcdef11;", NONE);
        fault("H1;H1;abcdef11;abcdefg11;", NONE);
        fault("H1;H1;r11;rr11;rrr11;", NONE);
        fault("H1;H1;rrr11;rr11;r11;", NONE);
        fault("H1;H1;r11;rr11;rr11;", 15);
        fault("H1;H1;a11;b12;c13;d14;e15;f16;g17;g18;", 34);
        fault("H1;H1;a11;b12;c13;d14;e15;f16;g17;a18;", 34);
        // its first letter comes ahead of all that is wrong behind it
        fault("H1;H1;r11;r01;", 10);
        fault("H1;H1;r11;r", 10);
        // but a name is not told yet while it may go on
        fault("H1;H1;abcdefg11;abcdefgh11;", 23);
    }

    static void faultOfHowManyColours() {
        fault("H1;H1;", 6);
        fault("H1;H1;a11;", NONE);
        fault("H1;H1;" + EIGHT, NONE);
        fault("H1;H1;" + EIGHT + "i19;", 38);
        fault("H1;H1;" + EIGHT + "   i", 41);
        fault("H1;H1;" + EIGHT + "a11;", 38);
        fault("H1;H1;" + EIGHT + "iiiiiiii", 38);
        fault(EIGHT + "i19;H1;H1;", 32);
        fault(EIGHT + "H1;H1;", NONE);
    }

    static void faultOfFigures() {
        for (char c = 0; c < 256; c++) {
            boolean figure = c >= '1' && c <= '9';
            boolean letter = c >= 'a' && c <= 'z';
            fault("H1;H1;r" + c + "1;", figure ? NONE : letter ? 9 : 7);
            fault("H1;H1;r1" + c + ";", figure ? NONE : 8);
            fault("r11;H1;H" + c + ";", c >= '0' && c <= '9' ? NONE : 8);
        }
        fault("H1;H1;r111;", 9);
        fault("H1;H1;r1;", 8);
        fault("H1;H1;r;", 7);
        fault("r11;H1;H11;", 9);
        fault("r11;H1;H;", 8);
    }

    static void faultOfSigns() {
        for (char c = 0; c < 256; c++) {
            fault("H1;H1;r11" + c, c == ';' ? NONE : 9);
            fault("r11;H1;H1" + c, c == ';' ? NONE : 9);
        }
        fault("H1;H1;r11;;", 10);
        fault(";H1;H1;r11;", 0);
    }

    static void faultOfHouses() {
        for (char c = 0; c < 256; c++) {
            boolean letter = c >= 'a' && c <= 'z';
            int want = "HSMBIW".indexOf(c) >= 0 ? NONE : c == ' ' || letter ? -100 : 7;
            if (want != -100) fault("r11;H1;" + c + "1;", want);
        }
        fault("r11;H1; 1;", 8);
        fault("r11;H1;h1;", 9);
        fault("r11;H1;HS1;", 8);
        fault("r11;H1;Hr1;", 8);
    }

    static void faultOfHowManyHouses() {
        fault("r11;", 4);
        fault("r11;H1;", 7);
        fault("r11;H1;   ", 10);
        fault("r11;H1;H1;", NONE);
        fault("r11;" + SIX, NONE);
        fault("r11;" + SIX + "H1;", 22);
        fault("r11;" + SIX + "  H", 24);
        fault(SIX + "W1;r11;", 18);
        fault(SIX + "r11;", NONE);
        fault(SIX, 18);
        fault("", 0);
        fault(" ", 1);
    }

    static void faultOfAnEarlyEnd() {
        String whole = " re11;H1; blue29;  S2;abcdefg99;M0; ";
        for (int n = 0; n <= whole.length(); n++) {
            // behind its second house, it is a town whenever an item or a blank has just ended
            boolean town = n == 22 || n == 32 || n >= 35;
            fault(whole.substring(0, n), town ? NONE : n);
        }
    }

    static void faultIsTheFirst() {
        fault("r00;X", 1);
        fault("r10;X", 2);
        fault("X r0", 0);
        fault("r11;H1;X1;r11;", 7);
        fault("r11;H1;r11;X1;", 7);
        fault(SIX + "H1;" + EIGHT + "i11;", 18);
        fault("abcdefgh00;", 7);
    }

    static void faultAtFullSize() {
        String town = EIGHT + SIX;
        fault(town + " ".repeat(90 - town.length()), NONE);
        fault(" ".repeat(90 - town.length()) + town, NONE);
        fault(" ".repeat(91 - town.length()) + town.substring(0, town.length() - 1), 90);
        fault(" ".repeat(89) + "r", 90);
        fault(" ".repeat(89) + "0", 89);
        String wide = "aaaaaaa11;bbbbbbb11;ccccccc11;ddddddd11;eeeeeee11;fffffff11;ggggggg11;hhhhhhh11;H1;H1; W0;";
        Checks.due("ninety signs", wide.length(), 90);
        fault(wide, NONE);
    }

    static void faultRefused() {
        for (int no : NO_TEXTS) bad("fault of no text " + no, x -> x.fault(no));
        Twins.finds("fault of a missing text", Twins::busy, Checks.NOTHING, x -> x.fault(3));
        Twins.leaves("a fault changes nothing", Twins::busy, 1, x -> x.fault(1));
        Twins.leaves("a fault changes nothing", Twins::busy, 0, x -> x.fault(2));
        Twins.leaves("no fault changes nothing", Twins::busy, NONE, x -> x.fault(0));
    }

    static void townHowMany() {
        for (int t = 0; t < 4; t++) {
            for (int n = 2; n <= 6; n++) {
                ColourCoupons x = new ColourCoupons();
                Checks.write(x, t, SIX.substring(0, 3 * n) + EIGHT.substring(0, 4 * n));
                Checks.due("town of " + n, x.town(t), n);
                Checks.due("houses", x.count(0), n);
                Checks.due("colours", x.count(1), n);
            }
        }
        ColourCoupons x = Checks.townOf("q99;H0;H0;");
        Checks.due("one colour", x.count(1), 1);
        Checks.due("eight colours", Checks.townOf(EIGHT + "H0;H0;").count(1), 8);
    }

    static void townAnew() {
        ColourCoupons x = Twins.made(Twins::busy);
        int told = x.asked();
        long upper = x.upper();
        Checks.due("the same anew", x.town(0), 4);
        Checks.due("month", x.count(2), 0);
        Checks.due("deeds", x.count(3), 0);
        Checks.due("things", x.count(4), 0);
        Checks.due("purses", x.count(5), 5 + 3 + 9 + 2);
        Checks.due("kept", x.count(8), 0);
        Checks.due("what was told stays", x.asked(), told);
        Checks.due("what was told stays", x.upper(), upper);
        for (int k = 0; k < 3; k++) {
            Checks.due("kept ones are gone", x.on(k), Checks.FINDING);
            Checks.due("kept ones are gone", x.finding(), Checks.NOTHING);
        }
        Checks.due("no deeds to undo", x.undo(1), Checks.BAD);
        Checks.due("rows stay", x.count(6), 4);
        Checks.due("texts stay", x.count(7), 3);
        Checks.write(x, 0, "z99;W9;W9;");
        Checks.due("a text is not the town", x.count(0), 4);
        Checks.due("fewer houses, colours", x.town(0), 2);
        Checks.due("of before: none", x.house(2, 0), Checks.BAD);
        Checks.due("of before: none", x.colour(1, 0), Checks.BAD);
        Checks.due("purses", x.count(5), 18);
    }

    static void townRefused() {
        for (int no : NO_TEXTS) bad("town of no text " + no, x -> x.town(no));
        Twins.finds("town of a missing text", Twins::busy, Checks.NOTHING, x -> x.town(3));
        Twins.leaves("town with a fault", Twins::busy, Checks.STATE, x -> x.town(1));
        Twins.leaves("town of nothing", Twins::busy, Checks.STATE, x -> x.town(2));
        Twins.leaves("town with a fault, none before", Twins::bare, Checks.STATE, x -> x.town(1));
    }

    static void orderOfNames() {
        String[] names = {"a", "aa", "aaaaaaa", "ab", "az", "b", "ba", "zzzzzzz"};
        int[][] orders = {{0, 1, 2, 3, 4, 5, 6, 7}, {7, 6, 5, 4, 3, 2, 1, 0}, {3, 7, 0, 5, 1, 6, 2, 4}};
        for (int[] order : orders) {
            StringBuilder town = new StringBuilder("H0;H0;");
            for (int k : order) town.append(names[k]).append(k + 1).append(9 - k).append(';');
            ColourCoupons x = Checks.townOf(town.toString());
            for (int c = 0; c < 8; c++) {
                Checks.tells("price", x, x.colour(c, 0), 1, c + 1);
                Checks.tells("lasts", x, x.colour(c, 1), 1, 9 - c);
                Checks.tells("letters", x, x.colour(c, 3), 1, names[c].length());
                for (int i = 0; i < names[c].length(); i++) Checks.due("letter", x.letter(c, i), names[c].charAt(i));
            }
        }
    }

    /** What it pays (as told for one that it has), or what it lacks for. */
    static void whatKindsPay() {
        for (int price = 1; price <= 9; price++) {
            int[] pays = {price, price, 2 * price, price == 1 ? 1 : price - 1, price, price > 4 ? 9 : 2 * price};
            for (int kind = 0; kind < 6; kind++) {
                for (int has = 0; has <= 9; has++) {
                    ColourCoupons x = Checks.townOf("q" + price + "9;H0;" + "HSMBIW".charAt(kind) + has + ";");
                    int want = has >= pays[kind] ? has - pays[kind] : Checks.SPENT;
                    Checks.due("price " + price + ", kind " + kind + ", purse " + has, x.buy(1, 0), want);
                    if (want >= 0) Checks.tells("pays", x, x.thing(1, 0), 9 + (kind == 3 ? 1 : kind == 5 ? 2 : 0), pays[kind]);
                }
            }
        }
    }

    static void howLongKindsHave() {
        int[] more = {0, 0, 0, 1, 0, 2};
        for (int lasts = 1; lasts <= 9; lasts++) {
            for (int kind = 0; kind < 6; kind++) {
                for (int start = 0; start <= 2; start += 2) {
                    ColourCoupons x = Checks.townOf("q1" + lasts + ";H0;" + "HSMBIW".charAt(kind) + "9;");
                    for (int i = 0; i < start; i++) x.month();
                    x.buy(1, 0);
                    int end = start + lasts + more[kind];
                    Checks.due("end", x.thing(1, 0), end);
                    for (int m = start + 1; m < end; m++) Checks.due("not yet", x.month(), 0);
                    Checks.due("still there", x.thing(1, 0), end);
                    Checks.due("it fades", x.month(), 1);
                    Checks.due("gone", x.thing(1, 0), NONE);
                }
            }
        }
    }

    static void whatKindsKeep() {
        for (int gets = 0; gets <= 9; gets++) {
            ColourCoupons x = Checks.townOf("q11;H" + gets + ";S" + gets + ";M" + gets + ";B" + gets + ";I" + gets + ";W" + gets + ";");
            int[] purse = {gets, gets, gets, gets, gets, gets};
            for (int n = 1; n <= 30; n++) {
                x.month();
                purse[1] = Math.min(99, purse[1] + gets);
                purse[4] = Math.min(99, purse[4] + gets + (int) Math.floor(purse[4] * 0.2 + 1e-9));
                purse[5] = gets + (int) Math.floor(purse[5] * 0.5 + 1e-9);
                for (int h = 0; h < 6; h++) Checks.tells("gets " + gets + ", house " + h, x, x.house(h, 2), 1, purse[h]);
            }
        }
    }

    /** Of so much in the purse, a miser gets a fifth, a widow keeps a half, cut. */
    static void whatMisersAndWidowsCut() {
        int[][] fifths = {{0, 0}, {1, 1}, {4, 4}, {5, 6}, {9, 10}};
        for (int[] f : fifths) {
            ColourCoupons x = Checks.townOf("q11;I0;H" + f[0] + ";");
            if (f[0] > 0) x.lend(1, 0, f[0]);
            x.month();
            Checks.tells("miser's " + f[0], x, x.house(0, 2), 1, f[1]);
        }
        int[][] halves = {{0, 0}, {1, 0}, {2, 1}, {3, 1}, {8, 4}, {9, 4}};
        for (int[] f : halves) {
            ColourCoupons x = Checks.townOf("q11;W0;H" + f[0] + ";");
            if (f[0] > 0) x.lend(1, 0, f[0]);
            x.month();
            Checks.tells("widow's " + f[0], x, x.house(0, 2), 1, f[1]);
        }
    }

    static void colour() {
        ColourCoupons x = Checks.townOf(EIGHT + "H9;H9;");
        for (int c = 0; c < 8; c++) {
            Checks.tells("price", x, x.colour(c, 0), 1, 1);
            Checks.tells("lasts", x, x.colour(c, 1), 1, c + 1);
            Checks.tells("houses", x, x.colour(c, 2), 1, 0);
            Checks.tells("letters", x, x.colour(c, 3), 1, 1);
        }
        Checks.leaves("the ninth", x, Checks.BAD, () -> x.colour(8, 0));
        for (int h = 0; h < 2; h++) {
            x.buy(h, 7);
            Checks.tells("houses that have it", x, x.colour(7, 2), 1, h + 1);
        }
        for (int no : new int[] {-1, 3, LEAST, MOST}) bad("no colour " + no, y -> y.colour(no, 0));
        for (int no : new int[] {-1, 4, LEAST, MOST}) bad("nothing of a colour " + no, y -> y.colour(0, no));
        Twins.leaves("no town", Twins::bare, Checks.BAD, y -> y.colour(0, 0));
    }

    static void letter() {
        ColourCoupons x = Checks.townOf("abcdefg11;z11;H1;H1;");
        for (int i = 0; i < 7; i++) Checks.due("letter " + i, x.letter(0, i), 'a' + i);
        Checks.due("the one letter", x.letter(1, 0), 'z');
        Checks.due("letter tells nothing", x.asked(), 0);
        Twins.leaves("not so many", Twins::busy, NONE, y -> y.letter(0, 1));
        Twins.leaves("not so many", Twins::busy, NONE, y -> y.letter(2, 3));
        Twins.leaves("not so many", Twins::busy, NONE, y -> y.letter(2, MOST));
        Checks.leaves("seven", x, NONE, () -> x.letter(0, 7));
        for (int no : new int[] {-1, LEAST}) bad("letter " + no, y -> y.letter(0, no));
        for (int no : new int[] {-1, 3, LEAST, MOST}) {
            bad("letter of no colour " + no, y -> y.letter(no, 0));
            bad("no colour ahead of not so many", y -> y.letter(no, 9));
        }
        Twins.leaves("no town", Twins::bare, Checks.BAD, y -> y.letter(0, 0));
    }

    static void house() {
        ColourCoupons x = Checks.townOf("a11;b11;c11;d11;e11;f11;g11;h11;H9;S1;M2;B3;I4;W0;");
        int[] kinds = {0, 1, 2, 3, 4, 5};
        int[] gets = {9, 1, 2, 3, 4, 0};
        for (int h = 0; h < 6; h++) {
            Checks.tells("kind", x, x.house(h, 0), 1, kinds[h]);
            Checks.tells("monthly", x, x.house(h, 1), 1, gets[h]);
            Checks.tells("purse", x, x.house(h, 2), 1, gets[h]);
            Checks.tells("colours", x, x.house(h, 3), 1, 0);
        }
        Checks.leaves("the seventh", x, Checks.BAD, () -> x.house(6, 0));
        int bits = 0;
        for (int c = 7; c >= 0; c--) {
            x.buy(0, c);
            bits += 1 << c;
            Checks.tells("colours", x, x.house(0, 3), 1, bits);
        }
        Checks.tells("monthly stays", x, x.house(0, 1), 1, 9);
        Checks.tells("purse", x, x.house(0, 2), 1, 1);
        for (int no : new int[] {-1, 4, LEAST, MOST}) {
            bad("no house " + no, y -> y.house(no, 0));
            bad("nothing of a house " + no, y -> y.house(0, no));
        }
        Twins.leaves("no town", Twins::bare, Checks.BAD, y -> y.house(0, 0));
    }

    static void thing() {
        Twins.leaves("none", Twins::busy, NONE, x -> x.thing(0, 0));
        for (int no : new int[] {-1, 4, LEAST, MOST}) bad("thing of no house " + no, x -> x.thing(no, 0));
        for (int no : new int[] {-1, 3, LEAST, MOST}) bad("thing of no colour " + no, x -> x.thing(0, no));
        Twins.leaves("no town", Twins::bare, Checks.BAD, x -> x.thing(0, 0));
        ColourCoupons x = Checks.townOf(EIGHT + "H9;H9;H9;H9;H9;B9;");
        x.buy(5, 7);
        Checks.tells("the last of all", x, x.thing(5, 7), 9, 1);
        x.buy(0, 0);
        Checks.tells("the first of all", x, x.thing(0, 0), 1, 1);
        Checks.due("of another house", x.thing(4, 7), NONE);
        Checks.due("of another colour", x.thing(5, 6), NONE);
        Checks.due("the eighth is the last", x.thing(4, 8), Checks.BAD);
        Checks.due("the sixth is the last", x.thing(6, 0), Checks.BAD);
    }

    static void markOfKinds() {
        for (int price = 1; price <= 9; price++) {
            ColourCoupons x = Checks.townOf("q" + price + "1;M0;B0;W0;");
            int widow = Math.min(9, 2 * price);
            Checks.due("mourner", x.mark(0, 2), price);
            Checks.due("blind", x.mark(1, 3), price == 1 ? 0 : 1);
            Checks.due("widow as a mourner", x.mark(2, 2), widow - price);
            Checks.due("widow", x.mark(2, 5), 2 * price - widow);
        }
        for (int gets = 0; gets <= 9; gets++) {
            ColourCoupons x = Checks.townOf("q11;S" + gets + ";I" + gets + ";");
            Checks.due("saver", x.mark(0, 1), gets);
            Checks.due("miser as a saver", x.mark(1, 1), gets + (gets >= 5 ? 1 : 0));
            Checks.due("miser", x.mark(1, 4), gets >= 5 ? 1 : 0);
            Checks.due("mark tells nothing", x.asked(), 0);
        }
    }

    static void markOfTheDearest() {
        for (String town : new String[] {"a91;b51;c11;", "a11;b91;c51;", "a11;b51;c91;", "a91;b91;c11;"}) {
            ColourCoupons x = Checks.townOf(town + "M0;W0;B0;");
            Checks.due("mourner", x.mark(0, 2), 9);
            Checks.due("widow as a mourner", x.mark(1, 2), 0);
            Checks.due("widow", x.mark(1, 5), 9);
            Checks.due("blind", x.mark(2, 3), 1);
        }
    }

    static void markAtNinetyNine() {
        ColourCoupons x = Checks.townOf("q11;S9;I9;H1;");
        for (int i = 0; i < 9; i++) x.month();
        Checks.tells("saver's purse", x, x.house(0, 2), 1, 90);
        Checks.due("just 99", x.mark(0, 1), 90);
        x.lend(2, 0, 1);
        Checks.due("saver, 99 at most", x.mark(0, 1), 90);
        Checks.tells("miser's purse", x, x.house(1, 2), 1, 99);
        Checks.due("miser as a saver, 99 at most", x.mark(1, 1), 90);
        Checks.due("miser and saver, 99 at most", x.mark(1, 4), 0);
        for (int i = 0; i < 3; i++) x.lend(1, 2, 9);
        x.lend(1, 2, 1);
        Checks.tells("miser's purse", x, x.house(1, 2), 1, 71);
        Checks.due("71, 14 and 9", x.mark(1, 1), 85);
        Checks.due("94 and 80", x.mark(1, 4), 14);
        x.lend(2, 1, 5);
        Checks.due("76, 15 and 9: 99 at most", x.mark(1, 4), 14);
    }

    static void markRefused() {
        for (int no : new int[] {-1, 4, LEAST, MOST}) {
            bad("mark of no house " + no, x -> x.mark(no, 1));
            bad("no house, no kind", x -> x.mark(no, 0));
        }
        for (int no : new int[] {0, -1, 6, LEAST, MOST}) {
            for (int h = 0; h < 4; h++) {
                int house = h;
                bad("kind " + no + " ahead of UNLIKE", x -> x.mark(house, no));
            }
        }
        int[][] unlike = {{0, 1}, {0, 2}, {0, 3}, {0, 4}, {0, 5}, {1, 2}, {1, 3}, {1, 4}, {1, 5}, {2, 1}, {2, 3}, {2, 4},
            {2, 5}, {3, 1}, {3, 2}, {3, 4}, {3, 5}};
        for (int[] u : unlike) {
            Twins.finds("mark " + u[0] + ", " + u[1], Twins::busy, Checks.UNLIKE, x -> x.mark(u[0], u[1]));
        }
        Twins.leaves("no town", Twins::bare, Checks.BAD, x -> x.mark(0, 1));
        for (int kind : new int[] {2, 3, 5}) {
            Twins.finds("a miser is no " + kind, EdgesOfTownsTest::miserAndWidow, Checks.UNLIKE, x -> x.mark(0, kind));
        }
        for (int kind : new int[] {1, 3, 4}) {
            Twins.finds("a widow is no " + kind, EdgesOfTownsTest::miserAndWidow, Checks.UNLIKE, x -> x.mark(1, kind));
        }
    }

    static void miserAndWidow(ColourCoupons x) {
        Twins.bare(x);
        Checks.write(x, 0, "a11;I1;W1;");
        x.town(0);
    }
}

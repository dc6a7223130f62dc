/** Promises 39 to 45: what is told. */
public final class TalesTest {
    public static void main(String[] args) {
        asked();
        fractions();
        count();
        findings();
        digest();
        digestOfNothing();
        Checks.end();
    }

    static void asked() {
        ColourCoupons x = new ColourCoupons();
        Checks.due("at first", x.asked(), 0);
        Checks.write(x, 0, "a23;b12;c31;H9;S7;I9;");
        x.town(0);
        Checks.due("town tells nothing", x.asked(), 0);
        Checks.fill(x, 0, 7, 8);
        Checks.tells("lay", x, x.lay(0, 1, 3), 1, 8);
        Checks.tells("at", x, x.at(0, 0), 1, 7);
        Checks.tells("mean", x, x.mean(0), 1, 5);
        Checks.tells("colour", x, x.colour(2, 0), 1, 3);
        Checks.tells("house", x, x.house(1, 2), 1, 7);
        Checks.tells("later", x, x.later(0, 0), 9, 25);
        x.buy(0, 0);
        x.month();
        x.keep(0);
        x.on(0);
        x.count(0);
        x.odds(1, 1, 1);
        x.mid(1, 1);
        x.duel(1);
        x.lots(1, 1);
        x.digest();
        x.letter(0, 0);
        x.mark(1, 1);
        x.kinds(0, 0);
        x.monthly(0, 0);
        x.finding();
        x.findings(1);
        x.undo(2);
        x.tear(0);
        Checks.due("others tell nothing", x.asked(), 25);
        Checks.tells("thing", x, x.thing(0, 0), 3, 2);
        Checks.tells("next", x, x.next(), 0, 3);
        Checks.tells("fades", x, x.fades(0), 0, Checks.NONE);
        Checks.tells("soon", x, x.soon(0, 0), 0, 9);
        Checks.tells("feast", x, x.feast(0, 7), 0, 4);
        Checks.tells("shop", x, x.shop(0, 0), 6, 5);
        Checks.tells("best", x, x.best(0), 0, 2);
        Checks.fill(x, 1, 2);
        Checks.tells("word", x, x.word(1), 2, 1);
        Checks.fill(x, 1, 9);
        Checks.tells("test", x, x.test(0, 1), 1, 3);
    }

    static void fractions() {
        ColourCoupons x = Checks.townOf("a23;H6;H6;");
        Checks.due("upper at first", x.upper(), 0);
        Checks.due("lower at first", x.lower(), 1);
        Checks.fraction("odds", x, x.odds(12, 1, 8), 1, 9);
        Checks.due("asked() is not for them", x.asked(), 0);
        Checks.due("refused", x.odds(-1, 1, 8), Checks.BAD);
        Checks.due("upper stays", x.upper(), 1);
        Checks.due("lower stays", x.lower(), 9);
        Checks.fraction("mid", x, x.mid(1, 8), 4, 1);
    }

    static void count() {
        ColourCoupons x = Checks.townOf("a11;b22;H9;S7;I9;M3;W4;B5;I1;".substring(0, 26));
        x.buy(0, 0);
        x.buy(1, 1);
        x.month();
        x.row(3, 1);
        x.row(4, 1);
        x.text(3, 1);
        x.keep(2);
        int[] want = {6, 2, 1, 3, 1, 9 + 12 + 19 + 3 + 6 + 5, 2, 2, 1, 2, 2};
        for (int i = 0; i <= 10; i++) Checks.due("count " + i, x.count(i), want[i]);
        Checks.leaves("11", x, Checks.BAD, () -> x.count(11));
        Checks.leaves("-1", x, Checks.BAD, () -> x.count(-1));
        x.tear(3);
        Checks.due("rows", x.count(6), 1);
    }

    static void findings() {
        ColourCoupons x = new ColourCoupons();
        Checks.due("at first", x.finding(), 0);
        for (int f = 1; f <= 5; f++) Checks.due("at first", x.findings(f), 0);
        Checks.leaves("0", x, Checks.BAD, () -> x.findings(0));
        Checks.leaves("6", x, Checks.BAD, () -> x.findings(6));
        Checks.leaves("-1", x, Checks.BAD, () -> x.findings(-1));
        x.at(0, 0);
        x.at(0, 0);
        x.row(0, -1);
        x.row(0, 0);
        x.mean(0);
        x.at(0, 0);
        x.at(6, 0);
        Checks.due("latest", x.finding(), 2);
        int[] want = {2, 1, 0, 1, 1};
        for (int f = 1; f <= 5; f++) Checks.due("findings " + f, x.findings(f), want[f - 1]);
    }

    static void digestOfNothing() {
        long sum = 17;
        for (int i = 0; i < 11; i++) sum = 31 * sum;
        for (int i = 0; i < 3 + 6 + 4; i++) sum = 31 * sum - 1;
        Checks.due("digest of nothing", new ColourCoupons().digest(), sum);
    }

    static void digest() {
        ColourCoupons x = Checks.townOf("ab23;c19;H9;W9;");
        x.buy(1, 1);
        x.keep(1);
        x.buy(0, 0);
        x.month();
        Checks.fill(x, 2, -7, 8);
        x.text(3, 2);
        x.put(3, 1, 200);
        int[] values = {2, 2, 1, 3, 2, 9 + 12, 1, 2, 1, 0, 1,
            2, 3, 1, 2, 1, 9, 1, 1,
            0, 9, 9, 1, 3, 0,
            5, 9, 12, 2, 0, 11,
            -1, 1, -1,
            -1, -1, 2, -7, 8, -1, -1, -1};
        long sum = 17;
        for (int v : values) sum = 31 * sum + v;
        String town = "ab23;c19;H9;W9;";
        sum = 31 * sum + town.length();
        for (int i = 0; i < town.length(); i++) sum = 31 * sum + town.charAt(i);
        sum = 31 * (31 * sum - 1) - 1;
        sum = 31 * (31 * (31 * sum + 2) + 32) - 56;
        x.colour(0, 0);
        Checks.due("digest", x.digest(), sum);
        Checks.due("digest leaves asked()", x.asked(), 2);
    }
}

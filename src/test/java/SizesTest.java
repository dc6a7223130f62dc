import java.util.ArrayList;
import java.util.List;

/** The largest towns (six houses, eight colours) and the smallest: each house, each colour; small ones behind large ones. */
public final class SizesTest {
    private static final String[] LARGEST = {
        "a19;b28;c37;d46;e55;f64;g73;h82;H9;S8;M7;B6;I5;W9;",
        "h91;g82;f73;e64;d55;c46;b37;a28;W9;I9;B9;M9;S9;H9;"};
    private static final String[] SMALLEST = {"q11;H1;H0;", "q99;W9;I9;", "q52;S5;B5;", "q43;M9;W8;"};

    private final String town;
    private ColourCoupons x;
    private Model m;

    SizesTest(String town) {
        this.town = town;
    }

    public static void main(String[] args) {
        for (String town : LARGEST) new SizesTest(town).each();
        for (String town : SMALLEST) new SizesTest(town).each();
        for (String large : LARGEST) for (String small : SMALLEST) smallBehindLarge(large, small);
        Checks.end();
    }

    void same(String call, int got, int want) {
        Checks.due(town + ": " + call, got, want);
        Checks.due(town + ": asked() behind " + call, x.asked(), m.asked);
    }

    /** A new object, as one is used for 512 calls, with some things in some hands. */
    void anew() {
        x = Checks.townOf(town);
        m = new Model();
        m.text(0, town.length());
        for (int i = 0; i < town.length(); i++) m.put(0, i, town.charAt(i));
        m.town(0);
        same("month", x.month(), m.month());
        same("lots", x.lots(20, 4711), m.lots(20, 4711));
        same("buy", x.buy(0, 0), m.buy(0, 0));
        int g = m.houses.size() - 1;
        int d = m.colours.size() - 1;
        same("buy", x.buy(g, d), m.buy(g, d));
        same("trade", x.trade(0, 0, g, d), m.trade(0, 0, g, d));
        same("lend", x.lend(g, 0, 1), m.lend(g, 0, 1));
    }

    void each() {
        colours();
        houses();
        pairs();
        feasts();
        guesses();
        chances();
        trades();
    }

    void colours() {
        anew();
        for (int c = -1; c <= m.colours.size(); c++) {
            for (int what = -1; what <= 4; what++) same("colour", x.colour(c, what), m.colour(c, what));
            for (int i = -1; i <= 8; i++) same("letter", x.letter(c, i), m.letter(c, i));
        }
    }

    void houses() {
        anew();
        for (int h = -1; h <= m.houses.size(); h++) {
            for (int what = -1; what <= 4; what++) same("house", x.house(h, what), m.house(h, what));
            for (int kind = -1; kind <= 6; kind++) same("mark", x.mark(h, kind), m.mark(h, kind));
            for (int order = -1; order <= 4; order++) same("shop", x.shop(h, order), m.shop(h, order));
            same("best", x.best(h), m.best(h));
            for (int n = -1; n <= 61; n += 31) same("later", x.later(h, n), m.later(h, n));
        }
    }

    void pairs() {
        anew();
        for (int h = -1; h <= m.houses.size(); h++) {
            for (int c = -1; c <= m.colours.size(); c++) {
                same("thing", x.thing(h, c), m.thing(h, c));
                same("soon", x.soon(h, c), m.soon(h, c));
            }
        }
        same("next", x.next(), m.next());
        for (int n = -1; n <= 12; n++) same("fades", x.fades(n), m.fades(n));
        for (int what = -1; what <= 11; what++) same("count", x.count(what), m.count(what));
        Checks.due(town + ": digest", x.digest(), m.digest());
    }

    void feasts() {
        for (int h = 0; h < m.houses.size(); h++) {
            anew();
            int all = (1 << m.colours.size()) - 1;
            for (int set = 0; set <= all; set += all > 60 ? 5 : 1) same("feast", x.feast(h, set), m.feast(h, set));
            same("feast of all", x.feast(h, all), m.feast(h, all));
            same("feast of more", x.feast(h, all + 1), m.feast(h, all + 1));
        }
    }

    void guesses() {
        anew();
        for (int h = -1; h <= m.houses.size(); h++) {
            for (int r = 0; r < 2; r++) {
                int house = Math.max(0, Math.min(h, m.houses.size() - 1));
                int seen = r == 0 ? m.later(house, 1) : 9;
                if (r == 0) same("later", x.later(house, 1), seen);
                same("row", x.row(r, 1), m.row(r, 1));
                same("lay", x.lay(r, 0, seen), m.lay(r, 0, seen));
                same("kinds", x.kinds(h, r), m.kinds(h, r));
                same("monthly", x.monthly(h, r), m.monthly(h, r));
                same("test", x.test(h, r), m.test(h, r));
            }
        }
        for (int v = 0; v < 26; v++) {
            same("lay", x.lay(0, 0, v), m.lay(0, 0, v));
            same("word", x.word(0), m.word(0));
        }
    }

    void chances() {
        anew();
        for (int n = 0; n <= 3; n++) same("duel", x.duel(n), m.duel(n));
        for (int n = 0; n <= 20; n += 5) {
            for (int p = 0; p <= 12; p += 4) {
                same("mid", x.mid(n, p), m.mid(n, p));
                fraction("mid");
                for (int k : new int[] {0, m.countOf(5), 100, 594}) {
                    same("odds", x.odds(k, n, p), m.odds(k, n, p));
                    if (k != 100) fraction("odds");
                }
            }
        }
    }

    void fraction(String call) {
        Checks.due(town + ": upper() behind " + call, x.upper(), m.upper.longValueExact());
        Checks.due(town + ": lower() behind " + call, x.lower(), m.lower.longValueExact());
    }

    void trades() {
        anew();
        int houses = m.houses.size();
        int colours = m.colours.size();
        for (int i = 0; i < 12; i++) {
            for (int h = 0; h < houses; h++) {
                int c = (i + h) % colours;
                int g = (h + 1 + i % 2) % houses;
                int d = (c + 1 + i / 2) % colours;
                same("trade", x.trade(h, c, g, d), m.trade(h, c, g, d));
            }
        }
        Checks.due(town + ": digest", x.digest(), m.digest());
    }

    /** All that can be asked of a town of two houses and one colour. */
    static List<Long> survey(ColourCoupons x) {
        List<Long> all = new ArrayList<>();
        all.add(x.digest());
        for (int h = 0; h < 3; h++) {
            for (int i = 0; i < 4; i++) ask(all, x, x.house(h, i));
            for (int kind = 1; kind < 6; kind++) ask(all, x, x.mark(h, kind));
            for (int c = 0; c < 2; c++) {
                ask(all, x, x.thing(h, c));
                ask(all, x, x.soon(h, c));
                ask(all, x, x.feast(h, c));
            }
            for (int order = 0; order < 4; order++) ask(all, x, x.shop(h, order));
            ask(all, x, x.best(h));
            ask(all, x, x.later(h, 7));
        }
        for (int i = 0; i < 4; i++) ask(all, x, x.colour(0, i));
        for (int i = 0; i < 8; i++) ask(all, x, x.letter(0, i));
        ask(all, x, x.colour(1, 0));
        ask(all, x, x.next());
        ask(all, x, x.fades(60));
        for (int n = 0; n < 4; n++) ask(all, x, x.duel(n));
        for (int p = 1; p < 12; p += 5) {
            ask(all, x, x.mid(6, p));
            all.add(x.upper() * 1000 + x.lower());
            ask(all, x, x.odds(5, 6, p));
            all.add(x.upper() * 1000 + x.lower());
        }
        ask(all, x, x.lots(12, 4242));
        all.add(x.digest());
        return all;
    }

    static void ask(List<Long> all, ColourCoupons x, int got) {
        all.add((long) got);
        all.add((long) x.asked());
    }

    /** A town anew is as told at first: nothing of a larger one ahead of it is left. */
    static void smallBehindLarge(String large, String small) {
        ColourCoupons behind = Checks.townOf(large);
        behind.lots(20, 31);
        behind.keep(1);
        behind.duel(3);
        behind.mid(3, 3);
        Checks.write(behind, 0, small);
        behind.town(0);
        ColourCoupons first = Checks.townOf(small);
        first.row(0, 1);
        behind.row(0, 1);
        first.at(0, 0);
        behind.at(0, 0);
        Checks.due(small + " behind " + large, survey(behind).equals(survey(first)) ? 1 : 0, 1);
    }
}

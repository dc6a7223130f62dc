import java.util.Random;

/** Random calls on the class and on the model of the document: each answer, and what is told behind it. */
public final class RandomTest {
    private static final String[] TOWNS = {
        "red24;H5; S3;blue12;M9;re33;B4;I6;mauve91;W7;redd55;a11;", "x11;H0;H9;", "a11;S9;I9;W9;",
        "a11;b22;c33;d44;e55;f66;g77;h88;H9;S8;M7;B6;I5;W4;", "b19;a92;W9;W8;I9;I3;S2;S1;", "q35;r53;s41;M9;M5;B9;B1;",
        "zz11;z29;zzz15;H9;I9;B9;"};

    /** What an object answers behind its 512th call is free; a step that writes a town is the longest. */
    private static final int MOST_CALLS = 512, LONGEST_STEP = 110;

    private final Random random;
    private final ColourCoupons x = new ColourCoupons();
    private final Model m = new Model();
    private final int run;
    private int calls;

    RandomTest(int run) {
        this.run = run;
        random = new Random(run);
    }

    public static void main(String[] args) {
        int runs = args.length > 0 ? Integer.parseInt(args[0]) : 1500;
        for (int run = 0; run < runs; run++) new RandomTest(run).play();
        Checks.end();
    }

    int up(int n) {
        return random.nextInt(n);
    }

    /** Mostly a number from low to high, seldom one just outside, or far away. */
    int num(int low, int high) {
        int luck = up(60);
        if (luck == 0) return low - 1;
        if (luck == 1) return high + 1;
        if (luck == 2) return random.nextInt();
        if (luck == 3) return random.nextBoolean() ? Integer.MAX_VALUE : Integer.MIN_VALUE;
        return low + up(high - low + 1);
    }

    int h() {
        return num(0, Math.max(1, m.houses.size()) - 1);
    }

    int c() {
        return num(0, Math.max(1, m.colours.size()) - 1);
    }

    void play() {
        write(up(4), TOWNS[up(TOWNS.length)]);
        while (calls < MOST_CALLS - LONGEST_STEP) {
            step();
            same("digest", x.digest(), m.digest());
            same("asked", x.asked(), m.asked);
            if (up(4) == 0) lastTold();
        }
        lastTold();
    }

    void lastTold() {
        same("upper", x.upper(), m.upper.longValueExact());
        same("lower", x.lower(), m.lower.longValueExact());
        same("finding", x.finding(), m.finding);
        for (int f = 1; f <= 5; f++) same("findings " + f, x.findings(f), m.findings[f]);
    }

    void same(String call, long got, long want) {
        calls++;
        Checks.due("run " + run + ": " + call, got, want);
    }

    void write(int t, String town) {
        same("text", x.text(t, town.length()), m.text(t, town.length()));
        for (int i = 0; i < town.length(); i++) same("put", x.put(t, i, town.charAt(i)), m.put(t, i, town.charAt(i)));
        same("town " + town, x.town(t), m.town(t));
    }

    /** A text that is nearly a town: some signs are other ones, or it is cut. */
    void spoil() {
        String signs = "abrz 019;HSMBIWX";
        StringBuilder town = new StringBuilder(TOWNS[up(TOWNS.length)]);
        for (int i = up(4); i > 0; i--) {
            int at = up(town.length());
            int way = up(3);
            char sign = signs.charAt(up(signs.length()));
            if (way == 0) town.setCharAt(at, sign);
            else if (way == 1 && town.length() < 90) town.insert(at, sign);
            else if (town.length() > 1) town.deleteCharAt(at);
        }
        if (up(4) == 0) town.setLength(up(town.length() + 1));
        if (up(4) == 0 && town.length() < 60) town.append(town.substring(0, Math.min(20, town.length())));
        write(up(4), town.toString());
    }

    /** A row of what a purse will be, by some kind and some monthly coupons, seldom not so. */
    void foretell(int r) {
        int n = 1 + up(5);
        same("row", x.row(r, n), m.row(r, n));
        if (m.houses.isEmpty()) return;
        int h = up(m.houses.size());
        char sign = "HSMBIW".charAt(up(6));
        int income = up(2) == 0 ? up(10) : m.houses.get(h).income();
        for (int i = 0; i < n; i++) {
            int v = up(30) == 0 ? num(0, 99) : Model.after(sign, income, m.now().purse[h], i + 1);
            same("lay", x.lay(r, i, v), m.lay(r, i, v));
        }
        ask(h, r);
        ask(up(m.houses.size()), r);
    }

    void ask(int h, int r) {
        same("kinds", x.kinds(h, r), m.kinds(h, r));
        same("monthly", x.monthly(h, r), m.monthly(h, r));
        same("test", x.test(h, r), m.test(h, r));
        same("asked", x.asked(), m.asked);
    }

    void spell(int r) {
        String name = m.colours.isEmpty() || up(4) == 0 ? "qa" : m.colours.get(up(m.colours.size())).name();
        int n = Math.max(1, Math.min(8, name.length() + up(3) - 1));
        same("row", x.row(r, n), m.row(r, n));
        for (int i = 0; i < n; i++) {
            int v = i < name.length() && up(8) > 0 ? name.charAt(i) - 'a' : num(0, 25);
            same("lay", x.lay(r, i, v), m.lay(r, i, v));
        }
        same("word", x.word(r), m.word(r));
    }

    void step() {
        switch (up(10)) {
            case 0: rows(); break;
            case 1: texts(); break;
            case 2: tales(); break;
            case 3: case 4: case 5: deeds(); break;
            case 6: case 7: comes(); break;
            default: guesses(); break;
        }
    }

    void rows() {
        int r = num(0, 5);
        int i = num(0, 5);
        int v = up(3) == 0 ? random.nextInt() : num(0, 99);
        int to = num(0, 5);
        int j = num(0, 5);
        int n = num(0, 7);
        switch (up(6)) {
            case 0: same("row", x.row(r, n), m.row(r, n)); break;
            case 1: same("lay", x.lay(r, i, v), m.lay(r, i, v)); break;
            case 2: same("at", x.at(r, i), m.at(r, i)); break;
            case 3: same("tear", x.tear(r), m.tear(r)); break;
            case 4: same("copy", x.copy(r, i, to, j, n), m.copy(r, i, to, j, n)); break;
            default: same("mean", x.mean(r), m.mean(r)); break;
        }
    }

    void texts() {
        int t = num(0, 3);
        int n = num(0, 90);
        int v = num(32, 122);
        switch (up(9)) {
            case 0: same("text", x.text(t, n), m.text(t, n)); break;
            case 1: case 2: same("put", x.put(t, n, v), m.put(t, n, v)); break;
            case 3: case 4: case 5: same("fault", x.fault(t), m.fault(t)); break;
            case 6: same("town", x.town(t), m.town(t)); break;
            case 7: spoil(); break;
            default: write(up(4), TOWNS[up(TOWNS.length)]); break;
        }
    }

    void tales() {
        int what = num(0, 3);
        int h = h();
        int c = c();
        switch (up(7)) {
            case 0: same("colour", x.colour(c, what), m.colour(c, what)); break;
            case 1: same("letter", x.letter(c, what), m.letter(c, what)); break;
            case 2: same("house", x.house(h, what), m.house(h, what)); break;
            case 3: same("thing", x.thing(h, c), m.thing(h, c)); break;
            case 4: int kind = num(1, 5); same("mark", x.mark(h, kind), m.mark(h, kind)); break;
            case 5: int all = num(0, 10); same("count", x.count(all), m.count(all)); break;
            default: int f = num(1, 5); same("findings", x.findings(f), m.findings(f)); break;
        }
    }

    void deeds() {
        int h = h();
        int g = h();
        int c = c();
        int d = c();
        int n = num(1, 9);
        int k = num(0, 2);
        switch (up(16)) {
            case 0: case 1: case 2: case 3: same("buy", x.buy(h, c), m.buy(h, c)); break;
            case 4: case 5: case 6: same("month", x.month(), m.month()); break;
            case 7: case 8: same("trade", x.trade(h, c, g, d), m.trade(h, c, g, d)); break;
            case 9: case 10: same("lend", x.lend(h, g, n), m.lend(h, g, n)); break;
            case 11: int back = num(0, m.deeds()); same("undo", x.undo(back), m.undo(back)); break;
            case 12: same("keep", x.keep(k), m.keep(k)); break;
            case 13: same("on", x.on(k), m.on(k)); break;
            default: int many = num(1, 20); int seed = num(1, 2147483646); same("lots", x.lots(many, seed), m.lots(many, seed)); break;
        }
    }

    void comes() {
        int h = h();
        int c = c();
        int n = up(2) == 0 ? num(0, 60) : num(0, 9);
        int set = num(0, (1 << m.colours.size()) - 1);
        int order = num(0, 3);
        switch (up(7)) {
            case 0: same("next", x.next(), m.next()); break;
            case 1: same("fades", x.fades(n), m.fades(n)); break;
            case 2: same("later", x.later(h, n), m.later(h, n)); break;
            case 3: same("soon", x.soon(h, c), m.soon(h, c)); break;
            case 4: same("feast", x.feast(h, set), m.feast(h, set)); break;
            case 5: same("shop", x.shop(h, order), m.shop(h, order)); break;
            default: same("best", x.best(h), m.best(h)); break;
        }
    }

    void guesses() {
        int r = num(0, 5);
        int n = num(0, 20);
        int p = num(0, 12);
        switch (up(8)) {
            case 0: spell(up(6)); break;
            case 1: same("word", x.word(r), m.word(r)); break;
            case 2: foretell(up(6)); break;
            case 3: ask(h(), r); break;
            case 4: int turns = num(0, 3); same("duel", x.duel(turns), m.duel(turns)); break;
            case 5: int k = up(2) == 0 ? num(0, 600) : num(0, 60); same("odds", x.odds(k, n, p), m.odds(k, n, p)); break;
            case 6: same("mid", x.mid(n, p), m.mid(n, p)); break;
            default: int few = num(0, 3); same("odds", x.odds(m.countOf(5), few, p), m.odds(m.countOf(5), few, p)); break;
        }
    }
}

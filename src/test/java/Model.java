import java.math.BigInteger;
import java.util.ArrayList;
import java.util.Arrays;
import java.util.Comparator;
import java.util.HashMap;
import java.util.List;
import java.util.Map;
import java.util.TreeMap;
import java.util.regex.Matcher;
import java.util.regex.Pattern;

/** The document once more, slowly and with the Java library, to hold the class against. */
final class Model {
    record Colour(String name, int price, int lasts) {
    }

    record House(char sign, int income) {
    }

    /** A thing stands under 10 times the house and the colour. */
    static final class State {
        int month;
        int[] purse;
        TreeMap<Integer, Integer> ends = new TreeMap<>();

        State twin() {
            State s = new State();
            s.month = month;
            s.purse = purse.clone();
            s.ends.putAll(ends);
            return s;
        }
    }

    final int[][] rows = new int[6][];
    final byte[][] texts = new byte[4][];
    List<Colour> colours = new ArrayList<>();
    List<House> houses = new ArrayList<>();
    /** What was before each deed, and last what is now. */
    List<State> past = new ArrayList<>();
    final Map<Integer, List<State>> kept = new HashMap<>();
    int asked;
    BigInteger upper = BigInteger.ZERO;
    BigInteger lower = BigInteger.ONE;
    int finding;
    final int[] findings = new int[6];

    Model() {
        State s = new State();
        s.purse = new int[0];
        past.add(s);
    }

    State now() {
        return past.get(past.size() - 1);
    }

    int find(int f) {
        finding = f;
        findings[f]++;
        return -3;
    }

    int tell(int v) {
        asked = v;
        return 1;
    }

    boolean h(int h) {
        return h >= 0 && h < houses.size();
    }

    boolean c(int c) {
        return c >= 0 && c < colours.size();
    }

    static boolean in(int v, int low, int high) {
        return v >= low && v <= high;
    }

    int row(int r, int n) {
        if (!in(r, 0, 5) || n > 40) return -1;
        if (n < 0) return find(5);
        rows[r] = new int[n];
        return n;
    }

    int lay(int r, int i, int v) {
        int was = at(r, i);
        if (was == 1) rows[r][i] = v;
        return was;
    }

    int at(int r, int i) {
        if (!in(r, 0, 5)) return -1;
        if (rows[r] == null) return find(1);
        if (!in(i, 0, rows[r].length - 1)) return find(2);
        return tell(rows[r][i]);
    }

    int tear(int r) {
        if (!in(r, 0, 5)) return -1;
        if (rows[r] == null) return find(1);
        rows[r] = null;
        return 1;
    }

    int copy(int r, int i, int to, int j, int n) {
        if (!in(r, 0, 5) || !in(to, 0, 5)) return -1;
        if (n < 0) return find(5);
        if (rows[r] == null || rows[to] == null) return find(1);
        if (i < 0 || j < 0 || (long) i + n > rows[r].length || (long) j + n > rows[to].length) return find(2);
        int[] taken = Arrays.copyOfRange(rows[r], i, i + n);
        for (int k = 0; k < n; k++) rows[to][j + k] = taken[k];
        return 1;
    }

    int mean(int r) {
        if (!in(r, 0, 5)) return -1;
        if (rows[r] == null) return find(1);
        if (rows[r].length == 0) return find(4);
        BigInteger sum = BigInteger.ZERO;
        for (int v : rows[r]) sum = sum.add(BigInteger.valueOf(v));
        return tell(sum.divide(BigInteger.valueOf(rows[r].length)).intValueExact());
    }

    int text(int t, int n) {
        if (!in(t, 0, 3) || n > 90) return -1;
        if (n < 0) return find(5);
        texts[t] = new byte[n];
        Arrays.fill(texts[t], (byte) 32);
        return n;
    }

    int put(int t, int i, int v) {
        if (!in(t, 0, 3)) return -1;
        if (texts[t] == null) return find(1);
        if (!in(i, 0, texts[t].length - 1)) return find(2);
        int was = texts[t][i];
        texts[t][i] = (byte) v;
        return 1000 + was;
    }

    static final Pattern NAME = Pattern.compile("[a-z]{1,7}(?![a-z])");

    /** The place of a text's fault, or -9 and its items in the lists. */
    static int parse(byte[] bytes, List<Colour> colours, List<House> houses) {
        char[] signs = new char[bytes.length];
        for (int i = 0; i < signs.length; i++) signs[i] = (char) (bytes[i] & 255);
        String s = new String(signs);
        int at = 0;
        while (at < s.length()) {
            char sign = s.charAt(at);
            if (sign == ' ') {
                at++;
            } else if (Character.isLowerCase(sign) && sign < 128) {
                if (colours.size() == 8) return at;
                Matcher m = NAME.matcher(s).region(at, s.length());
                m.useTransparentBounds(true);
                if (!m.lookingAt()) return at + 7;
                String name = m.group();
                if (colours.stream().anyMatch(c -> c.name().equals(name))) return at;
                int end = expect(s, m.end(), "[1-9]", "[1-9]", ";");
                if (end < 0) return -end - 1;
                colours.add(new Colour(name, s.charAt(end - 3) - '0', s.charAt(end - 2) - '0'));
                at = end;
            } else {
                if ("HSMBIW".indexOf(sign) < 0 || houses.size() == 6) return at;
                int end = expect(s, at + 1, "[0-9]", ";");
                if (end < 0) return -end - 1;
                houses.add(new House(sign, s.charAt(end - 2) - '0'));
                at = end;
            }
        }
        return houses.size() < 2 || colours.isEmpty() ? s.length() : -9;
    }

    /** The place behind signs that fit; if one does not, its place, as -1 - place. */
    static int expect(String s, int from, String... signs) {
        int at = from;
        for (String sign : signs) {
            if (at >= s.length() || !s.substring(at, at + 1).matches(sign)) return -1 - at;
            at++;
        }
        return at;
    }

    int fault(int t) {
        if (!in(t, 0, 3)) return -1;
        if (texts[t] == null) return find(1);
        return parse(texts[t], new ArrayList<>(), new ArrayList<>());
    }

    int town(int t) {
        if (!in(t, 0, 3)) return -1;
        if (texts[t] == null) return find(1);
        List<Colour> cs = new ArrayList<>();
        List<House> hs = new ArrayList<>();
        if (parse(texts[t], cs, hs) != -9) return -4;
        cs.sort(Comparator.comparing(Colour::name));
        colours = cs;
        houses = hs;
        kept.clear();
        State s = new State();
        s.purse = hs.stream().mapToInt(House::income).toArray();
        past = new ArrayList<>(List.of(s));
        return hs.size();
    }

    int has(State s, int h, int c) {
        return s.ends.getOrDefault(10 * h + c, 0);
    }

    int set(State s, int h) {
        int bits = 0;
        for (int c = 0; c < colours.size(); c++) if (has(s, h, c) > 0) bits += 1 << c;
        return bits;
    }

    int colourOf(int c, int what) {
        int many = 0;
        for (int h = 0; h < houses.size(); h++) if (has(now(), h, c) > 0) many++;
        Colour k = colours.get(c);
        return new int[] {k.price(), k.lasts(), many, k.name().length()}[what];
    }

    int houseOf(int h, int what) {
        House k = houses.get(h);
        return new int[] {"HSMBIW".indexOf(k.sign()), k.income(), now().purse[h], set(now(), h)}[what];
    }

    int colour(int c, int what) {
        return c(c) && in(what, 0, 3) ? tell(colourOf(c, what)) : -1;
    }

    int letter(int c, int i) {
        if (!c(c) || i < 0) return -1;
        String name = colours.get(c).name();
        return i < name.length() ? name.charAt(i) : -9;
    }

    int house(int h, int what) {
        return h(h) && in(what, 0, 3) ? tell(houseOf(h, what)) : -1;
    }

    static int cost(char sign, int price) {
        if (sign == 'M') return price + price;
        if (sign == 'W') return price > 4 ? 9 : price + price;
        if (sign == 'B') return price > 1 ? price - 1 : 1;
        return price;
    }

    int cost(int h, int c) {
        return cost(houses.get(h).sign(), colours.get(c).price());
    }

    int span(int h, int c) {
        char sign = houses.get(h).sign();
        return colours.get(c).lasts() + (sign == 'B' ? 1 : sign == 'W' ? 2 : 0);
    }

    static int after(char sign, int income, int purse) {
        int left = sign == 'S' ? purse : sign == 'I' ? purse + purse / 5 : sign == 'W' ? purse / 2 : 0;
        return left + income > 99 ? 99 : left + income;
    }

    static int after(char sign, int income, int purse, int months) {
        return months == 0 ? purse : after(sign, income, after(sign, income, purse), months - 1);
    }

    int after(int h, int months) {
        return after(houses.get(h).sign(), houses.get(h).income(), now().purse[h], months);
    }

    int thing(int h, int c) {
        if (!h(h) || !c(c)) return -1;
        int end = has(now(), h, c);
        if (end == 0) return -9;
        tell(cost(h, c));
        return end;
    }

    int mark(int h, int kind) {
        if (!h(h) || !in(kind, 1, 5)) return -1;
        char own = houses.get(h).sign();
        String fits = new String[] {"", "SI", "MW", "B", "I", "W"}[kind];
        if (fits.indexOf(own) < 0) return find(3);
        int income = houses.get(h).income();
        int purse = now().purse[h];
        int top = colours.stream().mapToInt(Colour::price).max().getAsInt();
        if (kind == 1) return after(own, income, purse) - after('H', income, purse);
        if (kind == 2) return cost(own, top) - cost('H', top);
        if (kind == 3) return cost('H', top) - cost(own, top);
        if (kind == 4) return after(own, income, purse) - after('S', income, purse);
        return cost('M', top) - cost(own, top);
    }

    int deeds() {
        return past.size() - 1;
    }

    State begin() {
        State s = now().twin();
        past.add(s);
        return s;
    }

    int buy(int h, int c) {
        if (!h(h) || !c(c)) return -1;
        if (has(now(), h, c) > 0) return -4;
        if (cost(h, c) > now().purse[h]) return -6;
        if (deeds() == 40) return -2;
        State s = begin();
        s.purse[h] -= cost(h, c);
        s.ends.put(10 * h + c, s.month + span(h, c));
        return s.purse[h];
    }

    int month() {
        if (houses.isEmpty() || now().month == 99) return -4;
        if (deeds() == 40) return -2;
        int before = now().ends.size();
        State s = begin();
        for (int h = 0; h < houses.size(); h++) s.purse[h] = after(h, 1);
        s.month++;
        s.ends.values().removeIf(end -> end <= s.month);
        return before - s.ends.size();
    }

    int trade(int h, int c, int g, int d) {
        if (!h(h) || !h(g) || !c(c) || !c(d) || h == g || c == d) return -1;
        int gives = has(now(), h, c);
        int gets = has(now(), g, d);
        if (gives == 0 || gets == 0 || has(now(), h, d) > 0 || has(now(), g, c) > 0) return -4;
        if (deeds() == 40) return -2;
        State s = begin();
        s.ends.remove(10 * h + c);
        s.ends.remove(10 * g + d);
        s.ends.put(10 * h + d, gets);
        s.ends.put(10 * g + c, gives);
        return gets;
    }

    int lend(int h, int g, int n) {
        if (!h(h) || !h(g) || h == g || !in(n, 1, 9)) return -1;
        if (now().purse[g] + n > 99) return -4;
        if (now().purse[h] < n) return -6;
        if (deeds() == 40) return -2;
        State s = begin();
        s.purse[h] -= n;
        s.purse[g] += n;
        return s.purse[h];
    }

    int undo(int n) {
        if (!in(n, 0, deeds())) return -1;
        int many = deeds() - n;
        past = new ArrayList<>(past.subList(0, n + 1));
        return many;
    }

    int keep(int k) {
        if (!in(k, 0, 2)) return -1;
        if (houses.isEmpty()) return -4;
        kept.put(k, new ArrayList<>(past));
        return deeds();
    }

    int on(int k) {
        if (!in(k, 0, 2)) return -1;
        if (!kept.containsKey(k)) return find(1);
        past = new ArrayList<>(kept.get(k));
        return deeds();
    }

    /** Things by the order in which they fade. */
    List<Integer> fading() {
        List<Integer> all = new ArrayList<>(now().ends.keySet());
        all.sort(Comparator.comparing((Integer key) -> now().ends.get(key)).thenComparing(key -> key));
        return all;
    }

    int next() {
        if (now().ends.isEmpty()) return -9;
        int key = fading().get(0);
        tell(now().ends.get(key));
        return key;
    }

    int fades(int n) {
        if (!in(n, 0, 60)) return -1;
        List<Integer> all = fading();
        all.removeIf(key -> now().ends.get(key) > now().month + n);
        tell(all.isEmpty() ? -9 : all.get(all.size() - 1));
        return all.size();
    }

    int later(int h, int n) {
        if (!h(h) || !in(n, 0, 60)) return -1;
        int sum = 0;
        for (int g = 0; g < houses.size(); g++) sum += after(g, n);
        tell(sum);
        return after(h, n);
    }

    int soon(int h, int c) {
        if (!h(h) || !c(c)) return -1;
        for (int n = 0; n <= 60; n++) {
            if (after(h, n) >= cost(h, c)) {
                tell(after(h, n));
                return n;
            }
        }
        return -9;
    }

    int feast(int h, int set) {
        if (!h(h) || !in(set, 0, (1 << colours.size()) - 1)) return -1;
        for (int n = 0; n <= 60; n++) {
            int sum = 0;
            for (int c = 0; c < colours.size(); c++) {
                boolean gone = has(now(), h, c) - now().month <= n;
                if ((set & 1 << c) != 0 && (has(now(), h, c) == 0 || gone)) sum += cost(h, c);
            }
            if (after(h, n) >= sum) {
                tell(sum);
                return n;
            }
        }
        return -9;
    }

    /** The colours got, and 1000 times what is left in the purse. */
    int shopping(int h, int order, int purse) {
        List<Integer> list = new ArrayList<>();
        for (int c = 0; c < colours.size(); c++) list.add(c);
        Comparator<Integer> by = Comparator.comparing(c -> c);
        if (order == 1) by = Comparator.comparing(c -> cost(h, c));
        if (order == 2) by = Comparator.comparing(c -> -cost(h, c));
        if (order == 3) by = (c, d) -> span(h, d) * cost(h, c) - span(h, c) * cost(h, d);
        list.sort(by.thenComparing(c -> c));
        int bits = 0;
        int left = purse;
        for (int c : list) {
            if (has(now(), h, c) == 0 && left >= cost(h, c)) {
                left -= cost(h, c);
                bits |= 1 << c;
            }
        }
        return bits + 1000 * left;
    }

    int shop(int h, int order) {
        if (!h(h) || !in(order, 0, 3)) return -1;
        int got = shopping(h, order, now().purse[h]);
        tell(got / 1000);
        return got % 1000;
    }

    int best(int h) {
        if (!h(h)) return -1;
        int[] many = new int[4];
        for (int o = 0; o < 4; o++) many[o] = Integer.bitCount(shopping(h, o, now().purse[h]) % 1000);
        int top = Arrays.stream(many).max().getAsInt();
        tell(top);
        for (int o = 0; o < 4; o++) if (many[o] == top) return o;
        return -1;
    }

    int word(int r) {
        if (!in(r, 0, 5)) return -1;
        if (rows[r] == null) return find(1);
        if (!in(rows[r].length, 1, 7)) return find(5);
        StringBuilder w = new StringBuilder();
        for (int v : rows[r]) {
            if (!in(v, 0, 25)) return find(3);
            w.append((char) ('a' + v));
        }
        int last = -9;
        for (int c = 0; c < colours.size(); c++) if (colours.get(c).name().compareTo(w.toString()) <= 0) last = c;
        if (last >= 0) tell(colours.get(last).name().contentEquals(w) ? 1 : 0);
        return last;
    }

    int look(int h, int r) {
        if (!h(h) || !in(r, 0, 5)) return -1;
        if (rows[r] == null) return find(1);
        if (!in(rows[r].length, 1, 20)) return find(5);
        for (int v : rows[r]) if (!in(v, 0, 99)) return find(3);
        return 0;
    }

    boolean fits(char sign, int income, int purse, int[] seen) {
        for (int i = 0; i < seen.length; i++) if (after(sign, income, purse, i + 1) != seen[i]) return false;
        return true;
    }

    int kinds(int h, int r) {
        int refused = look(h, r);
        if (refused != 0) return refused;
        int bits = 0;
        for (int k = 0; k < 6; k++) {
            if (fits("HSMBIW".charAt(k), houses.get(h).income(), now().purse[h], rows[r])) bits += 1 << k;
        }
        return bits;
    }

    int monthly(int h, int r) {
        int refused = look(h, r);
        if (refused != 0) return refused;
        int bits = 0;
        for (int n = 0; n <= 9; n++) if (fits(houses.get(h).sign(), n, now().purse[h], rows[r])) bits += 1 << n;
        return bits;
    }

    int test(int h, int r) {
        int bits = kinds(h, r);
        if (bits < 0) return bits;
        if (bits == 0) return -9;
        int least = 99;
        int when = 0;
        for (int n = 1; n <= 20; n++) {
            Map<Integer, Integer> parts = new HashMap<>();
            for (int k = 0; k < 6; k++) {
                if ((bits & 1 << k) != 0) parts.merge(after("HSMBIW".charAt(k), houses.get(h).income(), now().purse[h], n), 1, Integer::sum);
            }
            int most = parts.values().stream().max(Comparator.naturalOrder()).get();
            if (most < least) {
                least = most;
                when = n;
            }
        }
        tell(least);
        return when;
    }

    int duel(int n) {
        if (!in(n, 0, 3)) return -1;
        if (houses.isEmpty()) return -4;
        return duel(n, 1, now().purse.clone());
    }

    int duel(int left, int step, int[] purse) {
        if (left == 0) {
            int sum = 0;
            for (int h = 0; h < purse.length; h++) sum += Integer.bitCount(shopping(h, 1, purse[h]) % 1000);
            return sum;
        }
        int reached = duel(left - 1, -step, purse);
        for (int h = 0; h < purse.length; h++) {
            int[] then = purse.clone();
            then[h] = Math.max(0, Math.min(99, then[h] + step));
            int end = duel(left - 1, -step, then);
            if ((end - reached) * step > 0) reached = end;
        }
        return reached;
    }

    void fraction(BigInteger a, BigInteger b) {
        BigInteger g = a.gcd(b);
        upper = a.divide(g);
        lower = b.divide(g);
    }

    /** Ways (of 12 for each house) by which all purses together are so many. */
    TreeMap<Integer, BigInteger> ways(int n, int p) {
        TreeMap<Integer, BigInteger> all = new TreeMap<>(Map.of(0, BigInteger.ONE));
        for (int h = 0; h < houses.size(); h++) {
            TreeMap<Integer, BigInteger> then = new TreeMap<>();
            int poor = after(houses.get(h).sign(), 0, now().purse[h], n);
            int rich = after(h, n);
            all.forEach((sum, way) -> {
                then.merge(sum + poor, way.multiply(BigInteger.valueOf(p)), BigInteger::add);
                then.merge(sum + rich, way.multiply(BigInteger.valueOf(12 - p)), BigInteger::add);
            });
            all = then;
        }
        return all;
    }

    int odds(int k, int n, int p) {
        if (!in(k, 0, 600) || !in(n, 0, 20) || !in(p, 0, 12)) return -1;
        if (houses.isEmpty()) return -4;
        BigInteger sum = BigInteger.ZERO;
        for (BigInteger way : ways(n, p).tailMap(k, true).values()) sum = sum.add(way);
        fraction(sum, BigInteger.valueOf(12).pow(houses.size()));
        return 1;
    }

    int mid(int n, int p) {
        if (!in(n, 0, 20) || !in(p, 0, 12)) return -1;
        if (houses.isEmpty()) return -4;
        BigInteger[] sum = {BigInteger.ZERO};
        ways(n, p).forEach((v, way) -> sum[0] = sum[0].add(way.multiply(BigInteger.valueOf(v))));
        fraction(sum[0], BigInteger.valueOf(12).pow(houses.size()));
        return 1;
    }

    int lots(int n, int seed) {
        if (!in(n, 1, 20) || !in(seed, 1, 2147483646)) return -1;
        if (houses.isEmpty()) return -4;
        if (deeds() + n > 40) return -2;
        BigInteger lot = BigInteger.valueOf(seed);
        for (int i = 0; i < n; i++) {
            lot = lot.multiply(BigInteger.valueOf(48271)).mod(BigInteger.valueOf(2147483647));
            int it = lot.intValueExact();
            int h = it / 8 % houses.size();
            int before = deeds();
            if (it % 8 < 2) month();
            else if (it % 8 == 2) lend(h, h + 1 == houses.size() ? 0 : h + 1, 1);
            else buy(h, it / 64 % colours.size());
            if (deeds() == before) begin();
        }
        return now().ends.size();
    }

    int countOf(int what) {
        int present = 0;
        for (int[] r : rows) if (r != null) present++;
        int written = 0;
        for (byte[] t : texts) if (t != null) written++;
        int savers = 0;
        int mourners = 0;
        for (House k : houses) {
            if ("SI".indexOf(k.sign()) >= 0) savers++;
            if ("MW".indexOf(k.sign()) >= 0) mourners++;
        }
        return new int[] {houses.size(), colours.size(), now().month, deeds(), now().ends.size(),
            Arrays.stream(now().purse).sum(), present, written, kept.size(), savers, mourners}[what];
    }

    int count(int what) {
        return in(what, 0, 10) ? countOf(what) : -1;
    }

    int findings(int f) {
        return in(f, 1, 5) ? findings[f] : -1;
    }

    long digest() {
        List<Integer> all = new ArrayList<>();
        for (int i = 0; i < 11; i++) all.add(countOf(i));
        for (int c = 0; c < colours.size(); c++) for (int i = 0; i < 4; i++) all.add(colourOf(c, i));
        for (int h = 0; h < houses.size(); h++) {
            for (int i = 0; i < 4; i++) all.add(houseOf(h, i));
            for (int c = 0; c < colours.size(); c++) all.add(has(now(), h, c));
        }
        for (int k = 0; k < 3; k++) all.add(kept.containsKey(k) ? kept.get(k).size() - 1 : -1);
        for (int[] r : rows) {
            all.add(r == null ? -1 : r.length);
            if (r != null) for (int v : r) all.add(v);
        }
        for (byte[] t : texts) {
            all.add(t == null ? -1 : t.length);
            if (t != null) for (byte v : t) all.add((int) v);
        }
        long sum = 17;
        for (int v : all) sum = 31 * sum + v;
        return sum;
    }
}

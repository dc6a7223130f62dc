/** Promises 39 to 45 at their edges: what is told last, counts, findings, the digest. */
public final class EdgesOfTalesTest {
    private static final int LEAST = Integer.MIN_VALUE, MOST = Integer.MAX_VALUE;

    public static void main(String[] args) {
        beforeAny();
        askedStays();
        askedByEach();
        fractionsStay();
        countRefused();
        countLeastAndMost();
        countOfKinds();
        findingsRefused();
        findingIsTheLatest();
        findingOfEach();
        digestOfRowsAndTexts();
        digestOfKept();
        digestOfTheLargest();
        digestChangesNothing();
        Checks.end();
    }

    static void beforeAny() {
        ColourCoupons x = new ColourCoupons();
        Checks.due("asked", x.asked(), 0);
        Checks.due("upper", x.upper(), 0);
        Checks.due("lower", x.lower(), 1);
        Checks.due("finding", x.finding(), 0);
        for (int f = 1; f <= 5; f++) Checks.due("findings " + f, x.findings(f), 0);
        for (int what = 0; what <= 10; what++) Checks.due("count " + what, x.count(what), 0);
    }

    /** What is refused, and NONE, leave asked() as it is: each of the calls that tell by it. */
    static void askedStays() {
        Twins.Call[] refused = {x -> x.lay(6, 0, 1), x -> x.lay(3, 0, 1), x -> x.lay(0, 3, 1), x -> x.at(6, 0), x -> x.at(3, 0),
            x -> x.at(0, 3), x -> x.mean(6), x -> x.mean(3), x -> x.mean(1), x -> x.colour(3, 0), x -> x.house(4, 0),
            x -> x.thing(4, 0), x -> x.thing(0, 0), x -> x.fades(61), x -> x.later(0, 61), x -> x.soon(4, 0), x -> x.soon(2, 0),
            x -> x.feast(4, 0), x -> x.feast(0, 1), x -> x.shop(0, 4), x -> x.best(4), x -> x.word(6), x -> x.word(3),
            x -> x.word(1), x -> x.word(4), x -> x.test(4, 4), x -> x.test(0, 3), x -> x.test(0, 1), x -> x.test(0, 4)};
        for (int i = 0; i < refused.length; i++) {
            ColourCoupons x = Twins.made(Twins::busy);
            Checks.due("asked", x.asked(), 77);
            Checks.due("refused " + i, refused[i].on(x) < 0 ? 1 : 0, 1);
            Checks.due("asked stays " + i, x.asked(), 77);
        }
        ColourCoupons x = new ColourCoupons();
        x.row(0, 1);
        x.lay(0, 0, 7);
        x.at(0, 0);
        Checks.due("next answers NONE", x.next(), Checks.NONE);
        Checks.due("asked stays", x.asked(), 7);
        Checks.due("word answers NONE", x.word(0), Checks.NONE);
        Checks.due("asked stays", x.asked(), 7);
    }

    static void tells(String what, int asked, Twins.Call call) {
        ColourCoupons x = Twins.made(Twins::busy);
        Checks.due(what + " is not refused", call.on(x) >= 0 ? 1 : 0, 1);
        Checks.due(what + " tells", x.asked(), asked);
    }

    static void askedByEach() {
        tells("lay", 5, x -> x.lay(0, 1, 9));
        tells("at", 6, x -> x.at(0, 2));
        tells("mean", 5, x -> x.mean(0));
        tells("colour", 9, x -> x.colour(0, 0));
        tells("house", 5, x -> x.house(0, 2));
        tells("thing", 2, x -> x.thing(0, 2));
        tells("next", 4, x -> x.next());
        tells("fades", 2, x -> x.fades(2));
        tells("fades, none", Checks.NONE, x -> x.fades(1));
        tells("later", 22, x -> x.later(0, 0));
        tells("soon", 7, x -> x.soon(1, 2));
        tells("feast", 3, x -> x.feast(1, 6));
        tells("shop", 4, x -> x.shop(1, 0));
        tells("best", 2, x -> x.best(1));
        tells("word", 0, x -> {
            Checks.fill(x, 5, 25);
            return x.word(5);
        });
        tells("test", 3, x -> {
            Checks.fill(x, 5, 5);
            return x.test(0, 5);
        });
        Twins.Call[] others = {x -> x.row(3, 4), x -> x.tear(0), x -> x.copy(0, 0, 0, 1, 1), x -> x.text(0, 4), x -> x.put(0, 0, 4),
            x -> x.fault(0), x -> x.town(0), x -> x.letter(0, 0), x -> x.mark(1, 1), x -> x.buy(1, 1), x -> x.month(),
            x -> x.trade(0, 2, 3, 1), x -> x.lend(0, 1, 1), x -> x.undo(1), x -> x.keep(0), x -> x.on(0), x -> x.kinds(0, 4),
            x -> x.monthly(0, 4), x -> x.duel(1), x -> x.odds(1, 1, 1), x -> x.mid(1, 1), x -> x.lots(3, 3), x -> x.asked(),
            x -> (int) x.upper(), x -> (int) x.lower(), x -> x.count(5), x -> x.finding(), x -> x.findings(1),
            x -> (int) x.digest()};
        for (int i = 0; i < others.length; i++) {
            ColourCoupons x = Twins.made(Twins::busy);
            others[i].on(x);
            Checks.due("other call " + i + " tells nothing", x.asked(), 77);
        }
    }

    static void fractionsStay() {
        ColourCoupons x = Twins.made(Twins::busy);
        Checks.fraction("mid", x, x.mid(0, 0), 22, 1);
        x.town(0);
        x.keep(0);
        x.on(0);
        x.month();
        x.undo(0);
        x.odds(601, 0, 0);
        x.odds(0, 21, 0);
        x.odds(0, 0, 13);
        x.mid(21, 0);
        x.mid(0, 13);
        Checks.due("upper stays", x.upper(), 22);
        Checks.due("lower stays", x.lower(), 1);
        Checks.fraction("odds", x, x.odds(600, 0, 0), 0, 1);
    }

    static void countRefused() {
        for (int no : new int[] {-1, 11, LEAST, MOST}) {
            Twins.leaves("count " + no, Twins::busy, Checks.BAD, x -> x.count(no));
            Twins.leaves("count " + no, Twins::bare, Checks.BAD, x -> x.count(no));
        }
        for (int what = 0; what <= 10; what++) {
            ColourCoupons x = Twins.made(Twins::busy);
            int[] want = {4, 3, 2, 8, 2, 22, 4, 3, 2, 1, 1};
            Checks.due("count " + what, x.count(what), want[what]);
        }
    }

    static void countLeastAndMost() {
        ColourCoupons x = Checks.townOf("a11;b11;c11;d11;e11;f11;g11;h11;S9;S9;S9;S9;S9;S9;");
        for (int h = 0; h < 6; h++) for (int c = 0; c < 6; c++) x.buy(h, c);
        Checks.due("things", x.count(4), 36);
        Checks.due("purses", x.count(5), 18);
        x.month();
        Checks.due("things", x.count(4), 0);
        for (int r = 0; r < 6; r++) x.row(r, 0);
        for (int t = 1; t < 4; t++) x.text(t, 0);
        for (int k = 0; k < 3; k++) x.keep(k);
        int[] want = {6, 8, 1, 37, 0, 72, 6, 4, 3, 6, 0};
        for (int what = 0; what <= 10; what++) Checks.due("count " + what, x.count(what), want[what]);
        ColourCoupons y = Checks.townOf("a11;H0;H0;");
        int[] least = {2, 1, 0, 0, 0, 0, 0, 1, 0, 0, 0};
        for (int what = 0; what <= 10; what++) Checks.due("count " + what, y.count(what), least[what]);
    }

    static void countOfKinds() {
        int[][] want = {{0, 0}, {1, 0}, {0, 1}, {0, 0}, {1, 0}, {0, 1}};
        for (int kind = 0; kind < 6; kind++) {
            ColourCoupons x = Checks.townOf("a11;H0;" + "HSMBIW".charAt(kind) + "0;");
            Checks.due("savers", x.count(9), want[kind][0]);
            Checks.due("mourners", x.count(10), want[kind][1]);
        }
    }

    static void findingsRefused() {
        for (int no : new int[] {0, -1, 6, LEAST, MOST}) {
            Twins.leaves("findings " + no, Twins::busy, Checks.BAD, x -> x.findings(no));
        }
        ColourCoupons x = Twins.made(Twins::bare);
        int[] often = {1, 2, 5, 4, 3};
        for (int f = 1; f <= 5; f++) Checks.due("findings " + f, x.findings(f), often[f - 1]);
    }

    static void findingIsTheLatest() {
        ColourCoupons x = Twins.made(Twins::busy);
        Twins.Call[] finds = {y -> y.at(3, 0), y -> y.at(0, 3), y -> y.mark(0, 1), y -> y.mean(1), y -> y.row(0, -1)};
        for (int f = 5; f >= 1; f--) {
            Checks.due("finding " + f, finds[f - 1].on(x), Checks.FINDING);
            Checks.due("finding " + f, x.finding(), f);
            Checks.due("another refusal", x.at(6, 0), Checks.BAD);
            Checks.due("another refusal", x.buy(0, 2), Checks.STATE);
            Checks.due("another refusal", x.buy(0, 0), Checks.SPENT);
            Checks.due("a call that is not refused", x.at(0, 0), 1);
            Checks.due("finding stays", x.finding(), f);
            Checks.due("a town anew", x.town(0), 4);
            Checks.due("finding stays", x.finding(), f);
            x.buy(0, 2);
        }
    }

    /** Each call that can find, and what it finds. */
    static void findingOfEach() {
        Twins.Call[] nothing = {x -> x.lay(3, 0, 0), x -> x.at(3, 0), x -> x.tear(3), x -> x.copy(3, 0, 0, 0, 0),
            x -> x.copy(0, 0, 3, 0, 0), x -> x.mean(3), x -> x.put(3, 0, 0), x -> x.fault(3), x -> x.town(3), x -> x.on(1),
            x -> x.word(3), x -> x.kinds(0, 3), x -> x.monthly(0, 3), x -> x.test(0, 3)};
        Twins.Call[] beyond = {x -> x.lay(0, 3, 0), x -> x.at(0, 3), x -> x.copy(0, 3, 0, 0, 1), x -> x.copy(0, 0, 0, 3, 1),
            x -> x.put(1, 1, 0)};
        Twins.Call[] unlike = {x -> x.mark(0, 1), x -> x.word(4)};
        Twins.Call[] nought = {x -> x.mean(1)};
        Twins.Call[] size = {x -> x.row(0, -1), x -> x.copy(0, 0, 0, 0, -1), x -> x.text(0, -1), x -> x.word(1), x -> x.kinds(0, 1),
            x -> x.monthly(0, 1), x -> x.test(0, 1)};
        Twins.Call[][] all = {nothing, beyond, unlike, nought, size};
        for (int f = 1; f <= 5; f++) {
            for (int i = 0; i < all[f - 1].length; i++) {
                Twins.finds("finding " + f + ", call " + i, Twins::busy, f, all[f - 1][i]);
            }
        }
    }

    static long mixed(long sum, int... values) {
        for (int v : values) sum = 31 * sum + v;
        return sum;
    }

    static void digestOfRowsAndTexts() {
        ColourCoupons x = new ColourCoupons();
        long none = mixed(17, 0, 0, 0, 0, 0, 0, 0, 0, 0, 0, 0, -1, -1, -1);
        Checks.due("of nothing", x.digest(), mixed(none, -1, -1, -1, -1, -1, -1, -1, -1, -1, -1));
        x.row(0, 0);
        x.row(5, 2);
        x.lay(5, 0, LEAST);
        x.lay(5, 1, MOST);
        x.text(0, 0);
        x.text(3, 3);
        x.put(3, 0, 128);
        x.put(3, 1, 127);
        long some = mixed(17, 0, 0, 0, 0, 0, 0, 2, 2, 0, 0, 0, -1, -1, -1);
        Checks.due("of some", x.digest(), mixed(some, 0, -1, -1, -1, -1, 2, LEAST, MOST, 0, -1, -1, 3, -128, 127, 32));
        x.tear(0);
        some = mixed(17, 0, 0, 0, 0, 0, 0, 1, 2, 0, 0, 0, -1, -1, -1);
        Checks.due("of a torn one", x.digest(), mixed(some, -1, -1, -1, -1, -1, 2, LEAST, MOST, 0, -1, -1, 3, -128, 127, 32));
    }

    static void digestOfKept() {
        ColourCoupons x = Checks.townOf("a11;H0;S1;");
        x.month();
        x.keep(2);
        x.buy(1, 0);
        x.keep(0);
        x.text(0, 0);
        long sum = mixed(17, 2, 1, 1, 2, 1, 1, 0, 1, 2, 1, 0);
        sum = mixed(sum, 1, 1, 1, 1);
        sum = mixed(sum, 0, 0, 0, 0, 0);
        sum = mixed(sum, 1, 1, 1, 1, 2);
        Checks.due("kept", x.digest(), mixed(sum, 2, -1, 1, -1, -1, -1, -1, -1, -1, 0, -1, -1, -1));
    }

    static void digestOfTheLargest() {
        String town = "a19;b29;c39;d49;e59;f69;g79;h89;H9;S8;M7;B6;I5;W4;";
        ColourCoupons x = Checks.townOf(town);
        x.text(0, 90);
        for (int r = 0; r < 6; r++) x.row(r, 40);
        for (int t = 1; t < 4; t++) x.text(t, 90);
        for (int h = 0; h < 6; h++) x.buy(h, 0);
        long sum = mixed(17, 6, 8, 0, 6, 6, 8 + 7 + 5 + 5 + 4 + 2, 6, 4, 0, 2, 2);
        for (int c = 0; c < 8; c++) sum = mixed(sum, c + 1, 9, c == 0 ? 6 : 0, 1);
        int[] purses = {8, 7, 5, 5, 4, 2};
        int[] ends = {9, 9, 9, 10, 9, 11};
        for (int h = 0; h < 6; h++) sum = mixed(sum, h, 9 - h, purses[h], 1, ends[h], 0, 0, 0, 0, 0, 0, 0);
        sum = mixed(sum, -1, -1, -1);
        for (int r = 0; r < 6; r++) {
            sum = mixed(sum, 40);
            for (int i = 0; i < 40; i++) sum = mixed(sum, 0);
        }
        for (int t = 0; t < 4; t++) {
            sum = mixed(sum, 90);
            for (int i = 0; i < 90; i++) sum = mixed(sum, 32);
        }
        Checks.due("of the largest", x.digest(), sum);
    }

    static void digestChangesNothing() {
        ColourCoupons x = Twins.made(Twins::busy);
        long once = x.digest();
        Checks.due("again", x.digest(), once);
        Checks.due("asked stays", x.asked(), 77);
        Twins.leaves("digest", Twins::busy, 0, y -> y.digest() == once ? 0 : 1);
    }
}

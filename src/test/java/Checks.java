/** What the tests share: a count of wrong answers, and short ways to tell texts, rows and towns. */
final class Checks {
    static final int BAD = -1, FULL = -2, FINDING = -3, STATE = -4, SPENT = -6, NONE = -9;
    static final int NOTHING = 1, BEYOND = 2, UNLIKE = 3, NOUGHT = 4, SIZE = 5;

    private static int wrong;
    private static int made;

    private Checks() {
    }

    static void due(String call, long got, long want) {
        made++;
        if (got != want) {
            wrong++;
            System.out.println(call + " answered " + got + ", due is " + want);
        }
    }

    /** A refusal by a finding: the answer, which finding it is, and that it was counted once. */
    static void finds(String call, ColourCoupons x, int which, java.util.function.IntSupplier run) {
        int before = x.findings(which);
        int told = x.asked();
        due(call, run.getAsInt(), FINDING);
        due(call + ": finding()", x.finding(), which);
        due(call + ": findings()", x.findings(which), before + 1);
        due(call + ": asked() stays", x.asked(), told);
    }

    /** A call that is refused, or answers NONE, leaves all that digest() and asked() tell. */
    static void leaves(String call, ColourCoupons x, int want, java.util.function.IntSupplier run) {
        long before = x.digest();
        int told = x.asked();
        int finding = x.finding();
        due(call, run.getAsInt(), want);
        due(call + ": digest() stays", x.digest(), before);
        due(call + ": asked() stays", x.asked(), told);
        due(call + ": finding() stays", x.finding(), finding);
    }

    static void tells(String call, ColourCoupons x, int got, int want, int asked) {
        due(call, got, want);
        due(call + ": asked()", x.asked(), asked);
    }

    static void fraction(String call, ColourCoupons x, int got, long upper, long lower) {
        due(call, got, 1);
        due(call + ": upper()", x.upper(), upper);
        due(call + ": lower()", x.lower(), lower);
    }

    static void write(ColourCoupons x, int t, String signs) {
        due("text", x.text(t, signs.length()), signs.length());
        for (int i = 0; i < signs.length(); i++) x.put(t, i, signs.charAt(i));
    }

    static ColourCoupons townOf(String signs) {
        ColourCoupons x = new ColourCoupons();
        write(x, 0, signs);
        due("fault of " + signs, x.fault(0), NONE);
        if (x.town(0) < 2) due("town of " + signs, 0, 1);
        return x;
    }

    static void fill(ColourCoupons x, int r, int... numbers) {
        due("row", x.row(r, numbers.length), numbers.length);
        for (int i = 0; i < numbers.length; i++) due("lay", x.lay(r, i, numbers[i]), 1);
    }

    static void end() {
        System.out.println(wrong == 0 ? made + " answers are as due" : wrong + " of " + made + " answers are not as due");
        if (wrong != 0 || made == 0) System.exit(1);
    }
}

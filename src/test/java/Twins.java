import java.util.ArrayList;
import java.util.List;

/**
 * Two objects made alike, of which only one is asked and refused: then all that both tell is held side by side, what is
 * kept and the deeds behind the present, too. So a refusal that changes anything is seen.
 */
final class Twins {
    interface Recipe {
        void follow(ColourCoupons x);
    }

    interface Call {
        int on(ColourCoupons x);
    }

    /** Colours: 0 a (9 for 1 month), 1 re (1 for 2), 2 red (2 for 4). Houses: 0 house, 1 saver, 2 mourner, 3 blind. */
    static final String TOWN = "red24;H5;S3;re12;M9;a91;B2;";

    private Twins() {
    }

    static ColourCoupons made(Recipe recipe) {
        ColourCoupons x = new ColourCoupons();
        recipe.follow(x);
        return x;
    }

    /** A refusal without a finding, or NONE: nothing changes. */
    static void leaves(String what, Recipe recipe, int want, Call call) {
        hold(what, recipe, want, 0, call);
    }

    /** A refusal by a finding: nothing changes but finding(), findings(). */
    static void finds(String what, Recipe recipe, int which, Call call) {
        hold(what, recipe, Checks.FINDING, which, call);
    }

    private static void hold(String what, Recipe recipe, int want, int which, Call call) {
        ColourCoupons refused = made(recipe);
        ColourCoupons spared = made(recipe);
        Checks.due(what, call.on(refused), want);
        Checks.due(what + ": finding()", refused.finding(), which > 0 ? which : spared.finding());
        for (int f = 1; f <= 5; f++) {
            Checks.due(what + ": findings(" + f + ")", refused.findings(f), spared.findings(f) + (f == which ? 1 : 0));
        }
        Checks.due(what + ": all else stays", tale(refused).equals(tale(spared)) ? 1 : 0, 1);
    }

    /** All that an object tells; it is spent for it, as deeds are undone and kept towns gone on from. */
    static List<Long> tale(ColourCoupons x) {
        List<Long> all = new ArrayList<>(List.of((long) x.asked(), x.upper(), x.lower(), x.digest()));
        for (int c = x.count(1) - 1; c >= 0; c--) {
            for (int i = 0; i < 8; i++) all.add((long) x.letter(c, i));
        }
        for (int n = x.count(3); n >= 0; n--) goBack(x, n, all);
        for (int k = 0; k < 3; k++) {
            int deeds = x.on(k);
            all.add((long) deeds);
            for (int n = deeds; n >= 0; n -= 3) goBack(x, n, all);
        }
        return all;
    }

    private static void goBack(ColourCoupons x, int n, List<Long> all) {
        all.add((long) x.undo(n));
        all.add(x.digest());
    }

    /** No town, but rows (0: three, 1: none, 2: forty, 4: one number; 3, 5 missing), texts, findings of each sort. */
    static void bare(ColourCoupons x) {
        Checks.fill(x, 0, 4, 5, 6);
        x.row(1, 0);
        x.row(2, 40);
        x.lay(2, 0, -8);
        x.lay(2, 39, 8);
        Checks.fill(x, 4, 77);
        Checks.write(x, 1, "q");
        x.text(2, 0);
        x.at(3, 0);
        for (int i = 0; i < 2; i++) x.at(0, 3);
        for (int i = 0; i < 3; i++) x.row(0, -1);
        for (int i = 0; i < 4; i++) x.mean(1);
        for (int i = 0; i < 5; i++) x.word(4);
        x.at(4, 0);
    }

    /** As bare, and a town (its text is 0) with things, deeds, two of three places kept, a fraction told. */
    static void busy(ColourCoupons x) {
        bare(x);
        Checks.write(x, 0, TOWN);
        x.town(0);
        x.buy(0, 1);
        x.buy(1, 2);
        x.keep(0);
        x.trade(0, 1, 1, 2);
        x.lend(2, 0, 9);
        x.month();
        x.lots(2, 77);
        x.keep(2);
        x.buy(3, 1);
        x.odds(12, 2, 5);
        x.at(4, 0);
    }
}

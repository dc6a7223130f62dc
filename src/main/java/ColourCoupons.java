import java.util.Arrays;

/**
 * Colours by the coupon: households of several kinds buy colours that fade.
 * The document ../shared/DOC.md numbers what each public call promises.
 */
public final class ColourCoupons {
    public static final int BAD = -1, FULL = -2, FINDING = -3, STATE = -4, SPENT = -6, NONE = -9;

    private static final int NOTHING = 1, BEYOND = 2, UNLIKE = 3, NOUGHT = 4, SIZE = 5;
    private static final int MOST_CELLS = 40, MOST_BYTES = 90;
    private static final int LAST_MONTH = 99, FARTHEST = 60, LONGEST_LOOK = 20, MOST_LOTS = 20;
    private static final int MOST_LENT = 9, MOST_TURNS = 3, MOST_ASKED_FOR = 600;
    private static final int COUNTS = 11, ORDERS = 4;
    private static final int MULTIPLIER = 48271, MODULUS = 2147483647;

    private final Rows rows = new Rows(6, MOST_CELLS);
    private final Rows texts = new Rows(4, MOST_BYTES);
    private final Scan scan = new Scan();
    private final Ledger ledger = new Ledger();
    private final Town state = ledger.state;
    private final Plan plan = state.plan;
    private final Market market = new Market();
    private final Guess guess = new Guess();
    private final Chances chances = new Chances();
    private final int[] found = new int[SIZE + 1];
    private int latest;
    private int told;

    public ColourCoupons() {
    }

    // ---- 1 rows, texts, towns

    public int row(int r, int n) {
        if (!rows.isOne(r) || n > MOST_CELLS) return BAD;
        if (n < 0) return refuse(SIZE);
        rows.make(r, n, 0);
        return n;
    }

    public int lay(int r, int i, int v) {
        if (!rows.isOne(r)) return BAD;
        if (rows.isMissing(r)) return refuse(NOTHING);
        if (!rows.hasPlace(r, i)) return refuse(BEYOND);
        told = rows.get(r, i);
        rows.set(r, i, v);
        return 1;
    }

    public int at(int r, int i) {
        if (!rows.isOne(r)) return BAD;
        if (rows.isMissing(r)) return refuse(NOTHING);
        if (!rows.hasPlace(r, i)) return refuse(BEYOND);
        told = rows.get(r, i);
        return 1;
    }

    public int tear(int r) {
        if (!rows.isOne(r)) return BAD;
        if (rows.isMissing(r)) return refuse(NOTHING);
        rows.remove(r);
        return 1;
    }

    public int copy(int r, int i, int to, int j, int n) {
        if (!rows.isOne(r) || !rows.isOne(to)) return BAD;
        if (n < 0) return refuse(SIZE);
        if (rows.isMissing(r) || rows.isMissing(to)) return refuse(NOTHING);
        if (!rows.hasSpan(r, i, n) || !rows.hasSpan(to, j, n)) return refuse(BEYOND);
        rows.move(r, i, to, j, n);
        return 1;
    }

    public int mean(int r) {
        if (!rows.isOne(r)) return BAD;
        if (rows.isMissing(r)) return refuse(NOTHING);
        int size = rows.sizeOf(r);
        if (size <= 0) return refuse(NOUGHT);
        told = (int) (rows.sumOf(r) / size);
        return 1;
    }

    public int text(int t, int n) {
        if (!texts.isOne(t) || n > MOST_BYTES) return BAD;
        if (n < 0) return refuse(SIZE);
        texts.make(t, n, Scan.BLANK);
        return n;
    }

    public int put(int t, int i, int v) {
        if (!texts.isOne(t)) return BAD;
        if (texts.isMissing(t)) return refuse(NOTHING);
        if (!texts.hasPlace(t, i)) return refuse(BEYOND);
        int before = texts.get(t, i);
        texts.set(t, i, (byte) v);
        return before + 1000;
    }

    public int fault(int t) {
        if (!texts.isOne(t)) return BAD;
        if (texts.isMissing(t)) return refuse(NOTHING);
        return scan.read(texts.cellsOf(t), texts.sizeOf(t));
    }

    public int town(int t) {
        if (!texts.isOne(t)) return BAD;
        if (texts.isMissing(t)) return refuse(NOTHING);
        if (scan.read(texts.cellsOf(t), texts.sizeOf(t)) != NONE) return STATE;
        plan.take(scan, texts.cellsOf(t));
        ledger.begin();
        return plan.houses;
    }

    public int colour(int c, int what) {
        if (!plan.isColour(c) || what < 0 || what > 3) return BAD;
        told = ofColour(c, what);
        return 1;
    }

    public int letter(int c, int i) {
        if (!plan.isColour(c) || i < 0) return BAD;
        return i < plan.lengths[c] ? 'a' + plan.names[c * Plan.LONGEST_NAME + i] : NONE;
    }

    public int house(int h, int what) {
        if (!plan.isHouse(h) || what < 0 || what > 3) return BAD;
        told = ofHouse(h, what);
        return 1;
    }

    public int thing(int h, int c) {
        if (!plan.isHouse(h) || !plan.isColour(c)) return BAD;
        if (!state.has(h, c)) return NONE;
        told = plan.pays(h, c);
        return state.endOf(h, c);
    }

    public int mark(int h, int kind) {
        if (!plan.isHouse(h) || kind <= Kinds.HOUSE || kind >= Kinds.MANY) return BAD;
        int own = plan.kinds[h];
        if (!Kinds.isOf(own, kind)) return refuse(UNLIKE);
        int price = plan.prices[plan.dearest()];
        switch (kind) {
            case Kinds.SAVER: return state.purseAs(h, own) - state.purseAs(h, Kinds.HOUSE);
            case Kinds.MISER: return state.purseAs(h, own) - state.purseAs(h, Kinds.SAVER);
            case Kinds.MOURNER: return Kinds.pays(own, price) - Kinds.pays(Kinds.HOUSE, price);
            case Kinds.BLIND: return Kinds.pays(Kinds.HOUSE, price) - Kinds.pays(own, price);
            default: return Kinds.pays(Kinds.MOURNER, price) - Kinds.pays(own, price);
        }
    }

    // ---- 2 deeds

    public int buy(int h, int c) {
        if (!plan.isHouse(h) || !plan.isColour(c)) return BAD;
        if (state.has(h, c)) return STATE;
        if (plan.pays(h, c) > state.purses[h]) return SPENT;
        if (!ledger.hasRoomFor(1)) return FULL;
        ledger.add(Ledger.pack(Ledger.BUY, h, c, 0, 0));
        return state.purses[h];
    }

    public int month() {
        if (plan.houses == 0 || state.month >= LAST_MONTH) return STATE;
        if (!ledger.hasRoomFor(1)) return FULL;
        int before = state.things();
        ledger.add(Ledger.pack(Ledger.MONTH, 0, 0, 0, 0));
        return before - state.things();
    }

    public int trade(int h, int c, int g, int d) {
        if (!plan.isHouse(h) || !plan.isColour(c) || !plan.isHouse(g) || !plan.isColour(d)) return BAD;
        if (h == g || c == d) return BAD;
        if (!state.has(h, c) || !state.has(g, d) || state.has(h, d) || state.has(g, c)) return STATE;
        if (!ledger.hasRoomFor(1)) return FULL;
        ledger.add(Ledger.pack(Ledger.TRADE, h, c, g, d));
        return state.endOf(h, d);
    }

    public int lend(int h, int g, int n) {
        if (!plan.isHouse(h) || !plan.isHouse(g) || h == g || n < 1 || n > MOST_LENT) return BAD;
        if (state.purses[g] + n > Kinds.FULL_PURSE) return STATE;
        if (state.purses[h] < n) return SPENT;
        if (!ledger.hasRoomFor(1)) return FULL;
        ledger.add(Ledger.pack(Ledger.LEND, h, 0, g, n));
        return state.purses[h];
    }

    public int undo(int n) {
        if (n < 0 || n > ledger.size) return BAD;
        int undone = ledger.size - n;
        ledger.cutTo(n);
        return undone;
    }

    public int keep(int k) {
        if (!ledger.isShelf(k)) return BAD;
        if (plan.houses == 0) return STATE;
        ledger.shelve(k);
        return ledger.size;
    }

    public int on(int k) {
        if (!ledger.isShelf(k)) return BAD;
        if (ledger.shelved(k) < 0) return refuse(NOTHING);
        ledger.takeBack(k);
        return ledger.size;
    }

    // ---- 3 what comes

    public int next() {
        int slot = Outlook.first(state);
        if (slot < 0) return NONE;
        told = state.ends[slot];
        return Outlook.named(slot);
    }

    public int fades(int n) {
        if (n < 0 || n > FARTHEST) return BAD;
        int slot = Outlook.lastBy(state, state.month + n);
        told = slot < 0 ? NONE : Outlook.named(slot);
        return Outlook.manyBy(state, state.month + n);
    }

    public int later(int h, int n) {
        if (!plan.isHouse(h) || n < 0 || n > FARTHEST) return BAD;
        told = Outlook.allPursesIn(state, n);
        return Outlook.purseIn(state, h, n);
    }

    public int soon(int h, int c) {
        if (!plan.isHouse(h) || !plan.isColour(c)) return BAD;
        int cost = plan.pays(h, c);
        int purse = state.purses[h];
        for (int n = 0; n <= FARTHEST; n++) {
            if (purse >= cost) {
                told = purse;
                return n;
            }
            purse = plan.purseBehind(h, purse);
        }
        return NONE;
    }

    public int feast(int h, int set) {
        if (!plan.isHouse(h) || set < 0 || set >= 1 << plan.colours) return BAD;
        int purse = state.purses[h];
        for (int n = 0; n <= FARTHEST; n++) {
            int cost = Outlook.costOf(state, h, set, state.month + n);
            if (purse >= cost) {
                told = cost;
                return n;
            }
            purse = plan.purseBehind(h, purse);
        }
        return NONE;
    }

    // ---- 4 what to do

    public int shop(int h, int order) {
        if (!plan.isHouse(h) || order < 0 || order >= ORDERS) return BAD;
        int got = market.basket(state, h, order, state.purses[h]);
        told = state.purses[h] - Market.costOf(state, h, got);
        return got;
    }

    public int best(int h) {
        if (!plan.isHouse(h)) return BAD;
        int order = 0;
        int most = -1;
        for (int i = 0; i < ORDERS; i++) {
            int many = Integer.bitCount(market.basket(state, h, i, state.purses[h]));
            if (many > most) {
                most = many;
                order = i;
            }
        }
        told = most;
        return order;
    }

    // ---- 5 words, who it is

    public int word(int r) {
        if (!rows.isOne(r)) return BAD;
        int refused = refuseCells(r, Plan.LONGEST_NAME, 25);
        if (refused != 0) return refused;
        int last = NONE;
        int order = 0;
        for (int c = 0; c < plan.colours; c++) {
            int here = plan.compareName(c, rows.cellsOf(r), rows.sizeOf(r));
            if (here <= 0) {
                last = c;
                order = here;
            }
        }
        if (last != NONE) told = order == 0 ? 1 : 0;
        return last;
    }

    public int kinds(int h, int r) {
        if (!plan.isHouse(h) || !rows.isOne(r)) return BAD;
        int refused = refuseCells(r, LONGEST_LOOK, Kinds.FULL_PURSE);
        if (refused != 0) return refused;
        return Guess.kindsBy(state, h, rows.cellsOf(r), rows.sizeOf(r));
    }

    public int monthly(int h, int r) {
        if (!plan.isHouse(h) || !rows.isOne(r)) return BAD;
        int refused = refuseCells(r, LONGEST_LOOK, Kinds.FULL_PURSE);
        if (refused != 0) return refused;
        return Guess.incomesBy(state, h, rows.cellsOf(r), rows.sizeOf(r));
    }

    public int test(int h, int r) {
        if (!plan.isHouse(h) || !rows.isOne(r)) return BAD;
        int refused = refuseCells(r, LONGEST_LOOK, Kinds.FULL_PURSE);
        if (refused != 0) return refused;
        int set = Guess.kindsBy(state, h, rows.cellsOf(r), rows.sizeOf(r));
        if (set == 0) return NONE;
        guess.start(state, h);
        int when = 0;
        int least = Kinds.MANY + 1;
        for (int n = 1; n <= LONGEST_LOOK; n++) {
            guess.passMonth(state, h);
            int part = guess.greatestPart(set);
            if (part < least) {
                least = part;
                when = n;
            }
        }
        told = least;
        return when;
    }

    // ---- 6 by turns

    public int duel(int n) {
        if (n < 0 || n > MOST_TURNS) return BAD;
        if (plan.houses == 0) return STATE;
        return market.duelOf(state, n);
    }

    // ---- 7 chances, lots

    public int odds(int k, int n, int p) {
        if (k < 0 || k > MOST_ASKED_FOR || !isChance(n, p)) return BAD;
        if (plan.houses == 0) return STATE;
        chances.tellOdds(state, k, n, p);
        return 1;
    }

    public int mid(int n, int p) {
        if (!isChance(n, p)) return BAD;
        if (plan.houses == 0) return STATE;
        chances.tellMean(state, n, p);
        return 1;
    }

    public int lots(int n, int seed) {
        if (n < 1 || n > MOST_LOTS || seed < 1 || seed >= MODULUS) return BAD;
        if (plan.houses == 0) return STATE;
        if (!ledger.hasRoomFor(n)) return FULL;
        long lot = seed;
        for (int i = 0; i < n; i++) {
            lot = lot * MULTIPLIER % MODULUS;
            ledger.add(deedBy((int) lot));
        }
        return state.things();
    }

    // ---- 8 what is told

    public int asked() {
        return told;
    }

    public long upper() {
        return chances.above;
    }

    public long lower() {
        return chances.below;
    }

    public int count(int what) {
        if (what < 0 || what >= COUNTS) return BAD;
        return tally(what);
    }

    public int finding() {
        return latest;
    }

    public int findings(int f) {
        if (f < NOTHING || f > SIZE) return BAD;
        return found[f];
    }

    public long digest() {
        long sum = 17;
        for (int i = 0; i < COUNTS; i++) sum = 31 * sum + tally(i);
        for (int c = 0; c < plan.colours; c++) {
            for (int i = 0; i <= 3; i++) sum = 31 * sum + ofColour(c, i);
        }
        for (int h = 0; h < plan.houses; h++) {
            for (int i = 0; i <= 3; i++) sum = 31 * sum + ofHouse(h, i);
            for (int c = 0; c < plan.colours; c++) sum = 31 * sum + state.endOf(h, c);
        }
        for (int k = 0; k < Ledger.SHELVES; k++) sum = 31 * sum + ledger.shelved(k);
        return texts.mixInto(rows.mixInto(sum));
    }

    // ---- what the calls share

    private int refuse(int which) {
        latest = which;
        found[which]++;
        return FINDING;
    }

    /** The refusal of a row that should hold 1 to most numbers 0 .. highest; 0 if it does. */
    private int refuseCells(int r, int most, int highest) {
        if (rows.isMissing(r)) return refuse(NOTHING);
        int size = rows.sizeOf(r);
        if (size < 1 || size > most) return refuse(SIZE);
        for (int i = 0; i < size; i++) {
            int v = rows.get(r, i);
            if (v < 0 || v > highest) return refuse(UNLIKE);
        }
        return 0;
    }

    private static boolean isChance(int n, int p) {
        return n >= 0 && n <= LONGEST_LOOK && p >= 0 && p <= Chances.WHOLE;
    }

    private int ofColour(int c, int what) {
        switch (what) {
            case 0: return plan.prices[c];
            case 1: return plan.lasts[c];
            case 2: return state.holders(c);
            default: return plan.lengths[c];
        }
    }

    private int ofHouse(int h, int what) {
        switch (what) {
            case 0: return plan.kinds[h];
            case 1: return plan.incomes[h];
            case 2: return state.purses[h];
            default: return state.coloursOf(h);
        }
    }

    private int tally(int what) {
        switch (what) {
            case 0: return plan.houses;
            case 1: return plan.colours;
            case 2: return state.month;
            case 3: return ledger.size;
            case 4: return state.things();
            case 5: return state.allPurses();
            case 6: return rows.present();
            case 7: return texts.present();
            case 8: return ledger.manyShelved();
            case 9: return plan.manyOf(Kinds.SAVER);
            default: return plan.manyOf(Kinds.MOURNER);
        }
    }

    /** The deed that a lot asks for, or one of nothing if it can't be. */
    private int deedBy(int lot) {
        if (plan.houses <= 0 || plan.colours <= 0) return Ledger.pack(Ledger.IDLE, 0, 0, 0, 0);
        int h = lot / 8 % plan.houses;
        int way = lot % 8;
        if (way <= 1) {
            return Ledger.pack(state.month < LAST_MONTH ? Ledger.MONTH : Ledger.IDLE, 0, 0, 0, 0);
        }
        if (way == 2) {
            int g = (h + 1) % plan.houses;
            boolean can = state.purses[h] >= 1 && state.purses[g] < Kinds.FULL_PURSE;
            return Ledger.pack(can ? Ledger.LEND : Ledger.IDLE, h, 0, g, 1);
        }
        int c = lot / 64 % plan.colours;
        boolean can = !state.has(h, c) && plan.pays(h, c) <= state.purses[h];
        return Ledger.pack(can ? Ledger.BUY : Ledger.IDLE, h, c, 0, 0);
    }

    /** Numbered rows of numbers, each missing or of a size of its own; none is made twice. */
    private static final class Rows {
        static final int MISSING = -1;

        final int[][] cells;
        final int[] sizes;

        Rows(int many, int longest) {
            int rowsMade = Math.max(0, many);
            cells = new int[rowsMade][Math.max(0, longest)];
            sizes = new int[rowsMade];
            Arrays.fill(sizes, MISSING);
        }

        boolean isOne(int r) {
            return r >= 0 && r < sizes.length;
        }

        boolean isMissing(int r) {
            return sizes[r] < 0;
        }

        int sizeOf(int r) {
            return sizes[r];
        }

        int[] cellsOf(int r) {
            return cells[r];
        }

        boolean hasPlace(int r, int i) {
            return i >= 0 && i < sizes[r];
        }

        boolean hasSpan(int r, int i, int n) {
            // n is held against what is left, as i + n might wrap around
            return i >= 0 && i <= sizes[r] && n >= 0 && n <= sizes[r] - i;
        }

        int get(int r, int i) {
            return cells[r][i];
        }

        void set(int r, int i, int v) {
            cells[r][i] = v;
        }

        void make(int r, int n, int v) {
            sizes[r] = n;
            Arrays.fill(cells[r], v);
        }

        void remove(int r) {
            sizes[r] = MISSING;
        }

        void move(int r, int i, int to, int j, int n) {
            System.arraycopy(cells[r], i, cells[to], j, n);
        }

        long sumOf(int r) {
            long sum = 0;
            for (int i = 0; i < sizes[r]; i++) sum += cells[r][i];
            return sum;
        }

        int present() {
            int many = 0;
            for (int r = 0; r < sizes.length; r++) {
                if (sizes[r] >= 0) many++;
            }
            return many;
        }

        long mixInto(long start) {
            long sum = start;
            for (int r = 0; r < sizes.length; r++) {
                sum = 31 * sum + sizes[r];
                for (int i = 0; i < sizes[r]; i++) sum = 31 * sum + cells[r][i];
            }
            return sum;
        }
    }

    /** What a kind of house pays, for how long it has a colour, what is in its purse a month on. */
    private static final class Kinds {
        static final int HOUSE = 0, SAVER = 1, MOURNER = 2, BLIND = 3, MISER = 4, WIDOW = 5, MANY = 6;
        static final int FULL_PURSE = 99, WIDOW_PAYS = 9;

        static int bySign(int sign) {
            switch (sign) {
                case 'H': return HOUSE;
                case 'S': return SAVER;
                case 'M': return MOURNER;
                case 'B': return BLIND;
                case 'I': return MISER;
                case 'W': return WIDOW;
                default: return NONE;
            }
        }

        static boolean isOf(int kind, int other) {
            return kind == other || other == HOUSE
                || kind == MISER && other == SAVER
                || kind == WIDOW && other == MOURNER;
        }

        static int pays(int kind, int price) {
            switch (kind) {
                case MOURNER: return 2 * price;
                case WIDOW: return Math.min(WIDOW_PAYS, 2 * price);
                case BLIND: return Math.max(1, price - 1);
                default: return price;
            }
        }

        static int holds(int kind, int lasts) {
            switch (kind) {
                case BLIND: return lasts + 1;
                case WIDOW: return lasts + 2;
                default: return lasts;
            }
        }

        static int purseBehind(int kind, int income, int purse) {
            int then;
            switch (kind) {
                case SAVER: then = purse + income; break;
                case MISER: then = purse + income + purse / 5; break;
                case WIDOW: then = income + purse / 2; break;
                default: then = income; break;
            }
            return Math.min(FULL_PURSE, then);
        }
    }

    /** Reads a town's text sign by sign, and remembers where its items stand. */
    private static final class Scan {
        static final int BLANK = 32, CLOSE = 59;
        static final int ITEM = 0, NAME = 1, LASTS = 2, COLOUR_CLOSE = 3, INCOME = 4, HOUSE_CLOSE = 5;

        final int[] starts = new int[Plan.MOST_COLOURS];
        final int[] lengths = new int[Plan.MOST_COLOURS];
        final int[] prices = new int[Plan.MOST_COLOURS];
        final int[] lasts = new int[Plan.MOST_COLOURS];
        final int[] kinds = new int[Plan.MOST_HOUSES];
        final int[] incomes = new int[Plan.MOST_HOUSES];
        int colours;
        int houses;
        int awaited;

        /** The first place at which the text can't go on, NONE if it is a town. */
        int read(int[] signs, int size) {
            colours = 0;
            houses = 0;
            awaited = ITEM;
            for (int i = 0; i < size; i++) {
                int fault = step(signs, i);
                if (fault != NONE) return fault;
            }
            if (awaited == NAME && isToldAlready(signs)) return starts[colours];
            if (awaited != ITEM || houses < Plan.LEAST_HOUSES || colours < 1) return size;
            return NONE;
        }

        int step(int[] signs, int i) {
            int sign = signs[i];
            switch (awaited) {
                case NAME: return inName(signs, i);
                case LASTS: return isFigure(sign, 1) ? takeLasts(sign) : i;
                case INCOME: return isFigure(sign, 0) ? takeIncome(sign) : i;
                case COLOUR_CLOSE: return sign == CLOSE ? closeColour() : i;
                case HOUSE_CLOSE: return sign == CLOSE ? closeHouse() : i;
                default: return sign == BLANK ? NONE : openItem(sign, i);
            }
        }

        int openItem(int sign, int i) {
            if (isSmall(sign)) {
                if (colours >= Plan.MOST_COLOURS) return i;
                starts[colours] = i;
                lengths[colours] = 1;
                awaited = NAME;
                return NONE;
            }
            int kind = Kinds.bySign(sign);
            if (kind == NONE || houses >= Plan.MOST_HOUSES) return i;
            kinds[houses] = kind;
            awaited = INCOME;
            return NONE;
        }

        int inName(int[] signs, int i) {
            int sign = signs[i];
            if (isSmall(sign)) {
                if (lengths[colours] >= Plan.LONGEST_NAME) return i;
                lengths[colours]++;
                return NONE;
            }
            // the name's own place is ahead of any sign behind it
            if (isToldAlready(signs)) return starts[colours];
            if (!isFigure(sign, 1)) return i;
            prices[colours] = sign - '0';
            awaited = LASTS;
            return NONE;
        }

        int takeLasts(int sign) {
            lasts[colours] = sign - '0';
            awaited = COLOUR_CLOSE;
            return NONE;
        }

        int takeIncome(int sign) {
            incomes[houses] = sign - '0';
            awaited = HOUSE_CLOSE;
            return NONE;
        }

        int closeColour() {
            colours++;
            awaited = ITEM;
            return NONE;
        }

        int closeHouse() {
            houses++;
            awaited = ITEM;
            return NONE;
        }

        boolean isToldAlready(int[] signs) {
            for (int c = 0; c < colours; c++) {
                if (compareNames(signs, c, colours) == 0) return true;
            }
            return false;
        }

        int compareNames(int[] signs, int c, int d) {
            return Plan.compareRuns(signs, starts[c], lengths[c], signs, starts[d], lengths[d]);
        }

        static boolean isSmall(int sign) {
            return sign >= 'a' && sign <= 'z';
        }

        static boolean isFigure(int sign, int least) {
            return sign >= '0' + least && sign <= '9';
        }
    }

    /** What a town's text told: it stays as it is while deeds are done. */
    private static final class Plan {
        static final int MOST_COLOURS = 8, MOST_HOUSES = 6, LEAST_HOUSES = 2, LONGEST_NAME = 7;

        final int[] names = new int[MOST_COLOURS * LONGEST_NAME];
        final int[] lengths = new int[MOST_COLOURS];
        final int[] prices = new int[MOST_COLOURS];
        final int[] lasts = new int[MOST_COLOURS];
        final int[] kinds = new int[MOST_HOUSES];
        final int[] incomes = new int[MOST_HOUSES];
        int colours;
        int houses;

        void take(Scan scan, int[] signs) {
            colours = scan.colours;
            houses = scan.houses;
            for (int c = 0; c < colours; c++) takeColour(scan, signs, c);
            for (int h = 0; h < houses; h++) {
                kinds[h] = scan.kinds[h];
                incomes[h] = scan.incomes[h];
            }
        }

        void takeColour(Scan scan, int[] signs, int from) {
            int c = 0;
            for (int d = 0; d < colours; d++) {
                if (scan.compareNames(signs, d, from) < 0) c++;
            }
            lengths[c] = scan.lengths[from];
            prices[c] = scan.prices[from];
            lasts[c] = scan.lasts[from];
            for (int i = 0; i < lengths[c]; i++) {
                names[c * LONGEST_NAME + i] = signs[scan.starts[from] + i] - 'a';
            }
        }

        boolean isColour(int c) {
            return c >= 0 && c < colours;
        }

        boolean isHouse(int h) {
            return h >= 0 && h < houses;
        }

        int pays(int h, int c) {
            return Kinds.pays(kinds[h], prices[c]);
        }

        int holds(int h, int c) {
            return Kinds.holds(kinds[h], lasts[c]);
        }

        int purseBehind(int h, int purse) {
            return Kinds.purseBehind(kinds[h], incomes[h], purse);
        }

        int dearest() {
            int dear = 0;
            for (int c = 1; c < colours; c++) {
                if (prices[c] > prices[dear]) dear = c;
            }
            return dear;
        }

        int manyOf(int kind) {
            int many = 0;
            for (int h = 0; h < houses; h++) {
                if (Kinds.isOf(kinds[h], kind)) many++;
            }
            return many;
        }

        int compareName(int c, int[] letters, int size) {
            return compareRuns(names, c * LONGEST_NAME, lengths[c], letters, 0, size);
        }

        /** Below 0, 0, above 0: n numbers from i on are ahead of m others from j on, the same, behind. */
        static int compareRuns(int[] a, int i, int n, int[] b, int j, int m) {
            int shared = Math.min(n, m);
            for (int k = 0; k < shared; k++) {
                if (a[i + k] != b[j + k]) return a[i + k] < b[j + k] ? -1 : 1;
            }
            return n - m;
        }
    }

    /** The month, the purses, and the things with their ends (0: none). */
    private static final class Town {
        final Plan plan = new Plan();
        final int[] purses = new int[Plan.MOST_HOUSES];
        final int[] ends = new int[Plan.MOST_HOUSES * Plan.MOST_COLOURS];
        int month;

        void begin() {
            month = 0;
            Arrays.fill(ends, 0);
            System.arraycopy(plan.incomes, 0, purses, 0, Plan.MOST_HOUSES);
        }

        static int slot(int h, int c) {
            return h * Plan.MOST_COLOURS + c;
        }

        int endOf(int h, int c) {
            return ends[slot(h, c)];
        }

        boolean has(int h, int c) {
            return ends[slot(h, c)] != 0;
        }

        void acquire(int h, int c) {
            purses[h] -= plan.pays(h, c);
            ends[slot(h, c)] = month + plan.holds(h, c);
        }

        void passMonth() {
            month++;
            for (int s = 0; s < ends.length; s++) {
                if (ends[s] <= month) ends[s] = 0;
            }
            for (int h = 0; h < plan.houses; h++) purses[h] = plan.purseBehind(h, purses[h]);
        }

        void swap(int h, int c, int g, int d) {
            ends[slot(g, c)] = ends[slot(h, c)];
            ends[slot(h, d)] = ends[slot(g, d)];
            ends[slot(h, c)] = 0;
            ends[slot(g, d)] = 0;
        }

        void pass(int h, int g, int n) {
            purses[h] -= n;
            purses[g] += n;
        }

        /** The purse at the end of this month, if the house were of another kind. */
        int purseAs(int h, int kind) {
            return Kinds.purseBehind(kind, plan.incomes[h], purses[h]);
        }

        int things() {
            int many = 0;
            for (int s = 0; s < ends.length; s++) {
                if (ends[s] != 0) many++;
            }
            return many;
        }

        int holders(int c) {
            int many = 0;
            for (int h = 0; h < plan.houses; h++) {
                if (has(h, c)) many++;
            }
            return many;
        }

        int coloursOf(int h) {
            int set = 0;
            for (int c = 0; c < plan.colours; c++) {
                if (has(h, c)) set |= 1 << c;
            }
            return set;
        }

        int allPurses() {
            int sum = 0;
            for (int h = 0; h < plan.houses; h++) sum += purses[h];
            return sum;
        }
    }

    /** The deeds done, each in one number; what was before is found by doing the first ones again. */
    private static final class Ledger {
        static final int IDLE = 0, MONTH = 1, BUY = 2, TRADE = 3, LEND = 4;
        static final int MOST = 40, SHELVES = 3;

        final Town state = new Town();
        final int[] deeds = new int[MOST];
        final int[][] shelves = new int[SHELVES][MOST];
        final int[] shelfSizes = new int[SHELVES];
        int size;

        Ledger() {
            Arrays.fill(shelfSizes, -1);
        }

        static int pack(int way, int h, int c, int g, int d) {
            return way | h << 4 | c << 8 | g << 12 | d << 16;
        }

        void begin() {
            size = 0;
            Arrays.fill(shelfSizes, -1);
            state.begin();
        }

        boolean hasRoomFor(int n) {
            return size + n <= MOST;
        }

        void add(int deed) {
            if (size >= MOST) return;
            deeds[size] = deed;
            size++;
            perform(deed);
        }

        void perform(int deed) {
            int h = deed >> 4 & 15;
            int c = deed >> 8 & 15;
            int g = deed >> 12 & 15;
            int d = deed >> 16 & 15;
            switch (deed & 15) {
                case MONTH: state.passMonth(); break;
                case BUY: state.acquire(h, c); break;
                case TRADE: state.swap(h, c, g, d); break;
                case LEND: state.pass(h, g, d); break;
                default: break;
            }
        }

        void cutTo(int n) {
            size = n;
            state.begin();
            for (int i = 0; i < n; i++) perform(deeds[i]);
        }

        boolean isShelf(int k) {
            return k >= 0 && k < SHELVES;
        }

        int shelved(int k) {
            return shelfSizes[k];
        }

        int manyShelved() {
            int many = 0;
            for (int k = 0; k < SHELVES; k++) {
                if (shelfSizes[k] >= 0) many++;
            }
            return many;
        }

        void shelve(int k) {
            System.arraycopy(deeds, 0, shelves[k], 0, size);
            shelfSizes[k] = size;
        }

        // a kept town is one of the plan that stands, as a new plan clears the shelves
        void takeBack(int k) {
            System.arraycopy(shelves[k], 0, deeds, 0, shelfSizes[k]);
            cutTo(shelfSizes[k]);
        }
    }

    /** What comes if months go by and nothing else is done. */
    private static final class Outlook {
        static int named(int slot) {
            return slot / Plan.MOST_COLOURS * 10 + slot % Plan.MOST_COLOURS;
        }

        // slots go by houses, then colours, so that of like ends the first found stands
        static int first(Town state) {
            int first = -1;
            for (int s = 0; s < state.ends.length; s++) {
                int end = state.ends[s];
                if (end != 0 && (first < 0 || end < state.ends[first])) first = s;
            }
            return first;
        }

        static int lastBy(Town state, int month) {
            int last = -1;
            for (int s = 0; s < state.ends.length; s++) {
                int end = state.ends[s];
                if (end != 0 && end <= month && (last < 0 || end >= state.ends[last])) last = s;
            }
            return last;
        }

        static int manyBy(Town state, int month) {
            int many = 0;
            for (int s = 0; s < state.ends.length; s++) {
                if (state.ends[s] != 0 && state.ends[s] <= month) many++;
            }
            return many;
        }

        static int purseIn(Town state, int h, int n) {
            int purse = state.purses[h];
            for (int i = 0; i < n; i++) purse = state.plan.purseBehind(h, purse);
            return purse;
        }

        static int allPursesIn(Town state, int n) {
            int sum = 0;
            for (int h = 0; h < state.plan.houses; h++) sum += purseIn(state, h, n);
            return sum;
        }

        /** What a house pays for those colours of a set that it has not in a month. */
        static int costOf(Town state, int h, int set, int month) {
            int sum = 0;
            for (int c = 0; c < state.plan.colours; c++) {
                boolean wanted = (set >> c & 1) != 0;
                if (wanted && state.endOf(h, c) <= month) sum += state.plan.pays(h, c);
            }
            return sum;
        }
    }

    /** What houses get by shopping, and who gives and takes coupons ahead of that. */
    private static final class Market {
        static final int BY_NUMBER = 0, CHEAP_FIRST = 1, DEAR_FIRST = 2;
        static final int SHIFTS = 2 * MOST_TURNS + 1;

        final int[] costs = new int[Plan.MOST_COLOURS];
        final int[] times = new int[Plan.MOST_COLOURS];
        final int[] gains = new int[Plan.MOST_HOUSES * SHIFTS];
        final int[] shifts = new int[Plan.MOST_HOUSES];

        /** The colours that a house gets with so many coupons. */
        int basket(Town state, int h, int order, int coupons) {
            int colours = state.plan.colours;
            look(state, h);
            int left = coupons;
            int seen = 0;
            int got = 0;
            for (int i = 0; i < colours; i++) {
                int c = pick(colours, order, seen);
                seen |= 1 << c;
                if (!state.has(h, c) && costs[c] <= left) {
                    left -= costs[c];
                    got |= 1 << c;
                }
            }
            return got;
        }

        void look(Town state, int h) {
            for (int c = 0; c < state.plan.colours; c++) {
                costs[c] = state.plan.pays(h, c);
                times[c] = state.plan.holds(h, c);
            }
        }

        /** The first colour by an order that has not been seen. */
        int pick(int colours, int order, int seen) {
            int first = -1;
            for (int c = 0; c < colours; c++) {
                boolean free = (seen >> c & 1) == 0;
                if (free && (first < 0 || isAhead(order, c, first))) first = c;
            }
            return Math.max(0, first);
        }

        boolean isAhead(int order, int c, int d) {
            switch (order) {
                case BY_NUMBER: return c < d;
                case CHEAP_FIRST: return costs[c] < costs[d];
                case DEAR_FIRST: return costs[c] > costs[d];
                // two fractions are held against each other without a division
                default: return times[c] * costs[d] > times[d] * costs[c];
            }
        }

        static int costOf(Town state, int h, int set) {
            int sum = 0;
            for (int c = 0; c < state.plan.colours; c++) {
                if ((set >> c & 1) != 0) sum += state.plan.pays(h, c);
            }
            return sum;
        }

        int duelOf(Town state, int turns) {
            int sum = 0;
            for (int h = 0; h < state.plan.houses; h++) {
                shifts[h] = 0;
                for (int s = -turns; s <= turns; s++) gains[slot(h, s)] = gainWith(state, h, s);
                sum += gains[slot(h, 0)];
            }
            return play(this, state, turns, true, sum);
        }

        static int slot(int h, int shift) {
            return h * SHIFTS + shift + MOST_TURNS;
        }

        int gainWith(Town state, int h, int shift) {
            int coupons = state.purses[h] + shift;
            if (!isPurse(coupons)) return 0;
            return Integer.bitCount(basket(state, h, CHEAP_FIRST, coupons));
        }

        static boolean isPurse(int coupons) {
            return coupons >= 0 && coupons <= Kinds.FULL_PURSE;
        }

        /** The most (for the giver) or fewest colours that come of so many turns, at most MOST_TURNS. */
        private static int play(Market market, Town state, int turns, boolean gives, int sum) {
            if (turns <= 0 || turns > MOST_TURNS) return sum;
            int step = gives ? 1 : -1;
            int reached = play(market, state, turns - 1, !gives, sum);
            for (int h = 0; h < state.plan.houses; h++) {
                int shift = market.shifts[h];
                if (!isPurse(state.purses[h] + shift + step)) continue;
                int then = sum - market.gains[slot(h, shift)] + market.gains[slot(h, shift + step)];
                market.shifts[h] = shift + step;
                int outcome = play(market, state, turns - 1, !gives, then);
                market.shifts[h] = shift;
                reached = gives ? Math.max(reached, outcome) : Math.min(reached, outcome);
            }
            return reached;
        }
    }

    /** Of which kind a house may be, by what is seen in its purse. */
    private static final class Guess {
        static final int MOST_INCOME = 9;

        final int[] purses = new int[Kinds.MANY];

        static int kindsBy(Town state, int h, int[] seen, int size) {
            int set = 0;
            for (int kind = 0; kind < Kinds.MANY; kind++) {
                if (fits(kind, state.plan.incomes[h], state.purses[h], seen, size)) set |= 1 << kind;
            }
            return set;
        }

        static int incomesBy(Town state, int h, int[] seen, int size) {
            int set = 0;
            for (int income = 0; income <= MOST_INCOME; income++) {
                if (fits(state.plan.kinds[h], income, state.purses[h], seen, size)) set |= 1 << income;
            }
            return set;
        }

        static boolean fits(int kind, int income, int now, int[] seen, int size) {
            int purse = now;
            for (int i = 0; i < size; i++) {
                purse = Kinds.purseBehind(kind, income, purse);
                if (purse != seen[i]) return false;
            }
            return true;
        }

        void start(Town state, int h) {
            Arrays.fill(purses, state.purses[h]);
        }

        void passMonth(Town state, int h) {
            for (int kind = 0; kind < Kinds.MANY; kind++) {
                purses[kind] = Kinds.purseBehind(kind, state.plan.incomes[h], purses[kind]);
            }
        }

        /** How many kinds of a set at most have the same in their purse. */
        int greatestPart(int set) {
            int greatest = 0;
            for (int kind = 0; kind < Kinds.MANY; kind++) {
                if ((set >> kind & 1) != 0) greatest = Math.max(greatest, alike(kind, set));
            }
            return greatest;
        }

        int alike(int kind, int set) {
            int many = 0;
            for (int other = 0; other < Kinds.MANY; other++) {
                if ((set >> other & 1) != 0 && purses[other] == purses[kind]) many++;
            }
            return many;
        }
    }

    /** Chances and means when houses may go without, told as a fraction in lowest terms. */
    private static final class Chances {
        static final int WHOLE = 12, MOST_STEPS = 100;

        final int[] with = new int[Plan.MOST_HOUSES];
        final int[] without = new int[Plan.MOST_HOUSES];
        long above = 0;
        long below = 1;

        void lookAhead(Town state, int n) {
            for (int h = 0; h < state.plan.houses; h++) {
                with[h] = purseIn(state, h, state.plan.incomes[h], n);
                without[h] = purseIn(state, h, 0, n);
            }
        }

        static int purseIn(Town state, int h, int income, int n) {
            int purse = state.purses[h];
            for (int i = 0; i < n; i++) purse = Kinds.purseBehind(state.plan.kinds[h], income, purse);
            return purse;
        }

        void tellOdds(Town state, int k, int n, int p) {
            lookAhead(state, n);
            long ways = 0;
            long all = 1;
            for (int h = 0; h < state.plan.houses; h++) all *= WHOLE;
            for (int set = 0; set < 1 << state.plan.houses; set++) {
                if (pursesIf(state.plan.houses, set) >= k) ways += weightOf(state.plan.houses, set, p);
            }
            tell(ways, all);
        }

        /** All purses together, if the houses of a set go without. */
        int pursesIf(int houses, int set) {
            int sum = 0;
            for (int h = 0; h < houses; h++) {
                sum += (set >> h & 1) != 0 ? without[h] : with[h];
            }
            return sum;
        }

        static long weightOf(int houses, int set, int p) {
            long weight = 1;
            for (int h = 0; h < houses; h++) {
                weight *= (set >> h & 1) != 0 ? p : WHOLE - p;
            }
            return weight;
        }

        void tellMean(Town state, int n, int p) {
            lookAhead(state, n);
            long sum = 0;
            for (int h = 0; h < state.plan.houses; h++) {
                sum += (long) p * without[h] + (long) (WHOLE - p) * with[h];
            }
            tell(sum, WHOLE);
        }

        void tell(long upper, long lower) {
            long shared = divisorOf(upper, lower);
            if (shared <= 0) return;
            above = upper / shared;
            below = lower / shared;
        }

        /** The greatest common divisor; its steps shrink so fast that the bound is never met. */
        static long divisorOf(long a, long b) {
            long high = a;
            long low = b;
            for (int i = 0; i < MOST_STEPS && low != 0; i++) {
                long rest = high % low;
                high = low;
                low = rest;
            }
            return high;
        }
    }
}

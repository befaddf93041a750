import java.util.Arrays;

/** A town of up to seven lots, in which each house takes the first colour that none beside it has. */
public final class FirstColour {
    public static final int NONE = -1, BAD = -2, STATE = -3, FULL = -4;
    public static final long NO = -4611686018427387904L;

    private static final int NO_LOT = -5, UNFIT = -7;
    private static final int NOTHING_THERE = -11, PLACE_OUTSIDE = -12, OTHER_SORT = -13, SIZE_BELOW_0 = -14;
    private static final int NO_TWO_TO_SWAP = -100000;
    private static final int FAULT_AT_0 = -100;
    private static final int MOST_LOTS = 7, MOST_KINDS = 6, MOST_MORE = 9;
    private static final int LAST_COLOUR = 11;
    private static final int MOST_TEXTS = 6, MOST_BYTES = 160;
    private static final int MOST_SHEETS = 4, MOST_CELLS = 40;
    private static final int MOST_MOVES = 20;
    private static final int LAST_SEED = 99999, MOST_SEEDS = 40;
    private static final int WORTH = 0, WAITS = 1, MOVES = 2;

    private final Town town;
    /** What is only thought of happens here, so that the town stays as it is. */
    private final Town thought;
    private final Town kept;
    private boolean imageKept;
    private final Texts texts;
    private final Sheets sheets;
    private final Order order;
    private final Search search;
    private final Fits fits;

    public FirstColour() {
        town = new Town();
        thought = new Town();
        kept = new Town();
        imageKept = false;
        texts = new Texts();
        sheets = new Sheets();
        order = new Order();
        search = new Search();
        fits = new Fits();
    }

    // ---- the law

    public int count(int what) {
        switch (what) {
            case 0: return town.lots;
            case 1: return town.builtBits;
            case 2: return town.howManyColours();
            case 3: return town.pairsBeside();
            case 4: return texts.size;
            case 5: return town.law;
            case 6: return texts.tapeSize;
            default: return BAD;
        }
    }

    public int feed(int n, int a, int b, int c, int d, int e) {
        if (n < 1 || n > 5 || !isByte(a) || !isByte(b) || !isByte(c) || !isByte(d) || !isByte(e)) {
            return BAD;
        }
        if (texts.tapeSize + n > MOST_BYTES) {
            return FULL;
        }
        texts.addByte(a);
        if (n > 1) {
            texts.addByte(b);
        }
        if (n > 2) {
            texts.addByte(c);
        }
        if (n > 3) {
            texts.addByte(d);
        }
        if (n > 4) {
            texts.addByte(e);
        }
        return texts.tapeSize;
    }

    private static boolean isByte(int value) {
        return value >= 0 && value <= 255;
    }

    public int text() {
        if (texts.size >= MOST_TEXTS) {
            return FULL;
        }
        int fault = texts.readTape();
        return fault >= 0 ? FAULT_AT_0 - fault : texts.size - 1;
    }

    public int force(int t) {
        if (t < 0 || t >= texts.size) {
            return BAD;
        }
        int was = town.law;
        town.law = t;
        return was;
    }

    public int asks(int part, int l, int c, int order) {
        if (!town.hasLot(l)) {
            return NO_LOT;
        }
        if (part < WORTH || part > MOVES || !isColour(c) || order < 0 || order > MOST_LOTS) {
            return UNFIT;
        }
        return texts.says(part, town, l, c, order);
    }

    private static boolean isColour(int c) {
        return c >= 0 && c <= LAST_COLOUR;
    }

    // ---- lots

    public int lot(int kind, int more, int others) {
        if (!town.fitsLot(kind, more, others)) {
            return BAD;
        }
        if (town.lots >= MOST_LOTS) {
            return FULL;
        }
        return town.addLot(kind, more, others);
    }

    public int told(int l, int what) {
        if (!town.hasLot(l)) {
            return NO_LOT;
        }
        switch (what) {
            case 0: return town.kinds[l];
            case 1: return town.mores[l];
            case 2: return town.besides[l];
            case 3: return town.colourOf(l);
            case 4: return town.isBuilt(l) ? town.stamps[l] : NONE;
            default: return UNFIT;
        }
    }

    // ---- building

    public int build(int l) {
        if (!town.hasLot(l)) {
            return NO_LOT;
        }
        if (town.isBuilt(l)) {
            return STATE;
        }
        return town.buildHouse(l);
    }

    public int would(int l) {
        return town.hasLot(l) ? town.wouldTake(l) : NO_LOT;
    }

    public int pull(int l) {
        if (!town.hasLot(l)) {
            return NO_LOT;
        }
        if (!town.isBuilt(l)) {
            return STATE;
        }
        int had = town.colourOf(l);
        town.clearLot(l);
        return had;
    }

    public int paint(int l, int c) {
        if (!town.hasLot(l)) {
            return NO_LOT;
        }
        if (!isColour(c)) {
            return UNFIT;
        }
        int had = town.colourOf(l);
        if (town.isBuilt(l)) {
            town.colours[l] = c;
        } else {
            town.putHouse(l, c);
        }
        return had;
    }

    // ---- lanes

    public int lane(int a, int b) {
        int refusal = refusalOfLane(a, b);
        return refusal != 0 ? refusal : Lanes.openLane(town, texts, a, b);
    }

    private int refusalOfLane(int a, int b) {
        if (!town.hasTwoLots(a, b)) {
            return NO_LOT;
        }
        return town.areBeside(a, b) ? STATE : 0;
    }

    public int close(int a, int b) {
        if (!town.hasTwoLots(a, b)) {
            return NO_LOT;
        }
        if (!town.areBeside(a, b)) {
            return 0;
        }
        town.part(a, b);
        return 1;
    }

    public int idle(int what) {
        if (what < 0 || what > 2) {
            return BAD;
        }
        int still = 0;
        int busiest = NONE;
        int most = 0;
        for (int a = 0; a < town.lots; a++) {
            for (int b = a + 1; b < town.lots; b++) {
                if (!town.areBeside(a, b)) {
                    int moved = movesInThought(a, b, town.law);
                    still += moved == 0 ? 1 : 0;
                    if (moved > most) {
                        most = moved;
                        busiest = 10 * a + b;
                    }
                }
            }
        }
        return what == 0 ? still : what == 1 ? busiest : most;
    }

    private int movesInThought(int a, int b, int law) {
        thought.becomes(town);
        thought.law = law;
        return Lanes.openLane(thought, texts, a, b);
    }

    // ---- orders

    public int order(int sort, int what) {
        if (sort < 0 || sort > 1 || what < 0 || what > 1) {
            return BAD;
        }
        thought.becomes(town);
        search.run(thought, sort == 1);
        return what == 0 ? search.best : search.bestDigits;
    }

    public int fewest() {
        return fits.fewestColours(town);
    }

    public int paints(int s, int what) {
        int refusal = refusalOfOrder(s, town.unbuiltBits());
        if (refusal != 0) {
            return refusal;
        }
        if (what < 0 || what > town.lots) {
            return UNFIT;
        }
        thought.becomes(town);
        thought.buildFirst(order, order.size);
        return what == 0 ? thought.howManyColours() : thought.colourOf(what - 1);
    }

    /** Also puts the order of the sheet into the field order. */
    private int refusalOfOrder(int s, int lotBits) {
        if (!Sheets.isSheet(s)) {
            return BAD;
        }
        if (sheets.isMissing(s)) {
            return NOTHING_THERE;
        }
        return order.becomesSheet(sheets, s, lotBits) ? 0 : BAD;
    }

    public int raise(int s) {
        int refusal = refusalOfOrder(s, town.unbuiltBits());
        if (refusal != 0) {
            return refusal;
        }
        town.buildFirst(order, order.size);
        return town.howManyColours();
    }

    public int when(int l, int s, int what) {
        if (!town.hasLot(l)) {
            return NO_LOT;
        }
        if (town.isBuilt(l)) {
            return STATE;
        }
        int refusal = refusalOfOrder(s, town.unbuiltBits() & ~(1 << l));
        if (refusal != 0) {
            return refusal;
        }
        if (what < 0 || what > 1) {
            return UNFIT;
        }
        int best = Integer.MIN_VALUE;
        int bestN = 0;
        thought.becomes(town);
        for (int n = 0; n <= order.size; n++) {
            int colour = thought.wouldTake(l);
            int gain = texts.says(WORTH, thought, l, colour, n) - texts.says(WAITS, thought, l, colour, n);
            if (gain > best) {
                best = gain;
                bestN = n;
            }
            if (n < order.size) {
                thought.buildHouse(order.lots[n]);
            }
        }
        return what == 0 ? bestN : best;
    }

    public int rule(int rule, int what) {
        if (rule < 0 || rule > 2 || what < 0 || what > 1) {
            return BAD;
        }
        order.becomesRule(town, rule);
        if (what == 1) {
            return order.digits();
        }
        thought.becomes(town);
        thought.buildFirst(order, order.size);
        return thought.howManyColours();
    }

    public int ahead(int a, int b) {
        if (!town.hasTwoLots(a, b) || town.isBuilt(a) || town.isBuilt(b)) {
            return NO_TWO_TO_SWAP;
        }
        order.becomesRule(town, 0);
        int byNumbers = worthInOrder(a);
        order.swap(a, b);
        return worthInOrder(a) - byNumbers;
    }

    private int worthInOrder(int l) {
        int place = order.placeOf(l);
        thought.becomes(town);
        thought.buildFirst(order, place);
        return texts.says(WORTH, thought, l, thought.wouldTake(l), place);
    }

    // ---- how it was built

    public int built(int what) {
        if (what < 0 || what > 1) {
            return BAD;
        }
        int orders = fits.countOrders(town, 0, town.builtBits, town.colours, 0);
        return what == 0 ? orders : fits.firstOrder();
    }

    public int blame() {
        if (fits.countOrders(town, 0, town.builtBits, town.colours, 0) > 0) {
            return 0;
        }
        int bits = 0;
        for (int l = 0; l < town.lots; l++) {
            if (town.isBuilt(l) && fits.countOrders(town, 0, town.builtBits, town.colours, 1 << l) > 0) {
                bits |= 1 << l;
            }
        }
        return bits;
    }

    // ---- maps

    public int judge(int s) {
        int refusal = refusalOfMap(s);
        return refusal != 0 ? refusal : firstOtherwise(s, (1 << town.lots) - 1);
    }

    private int refusalOfMap(int s) {
        if (!Sheets.isSheet(s)) {
            return BAD;
        }
        if (sheets.isMissing(s)) {
            return NOTHING_THERE;
        }
        return sheets.sizes[s] == town.lots ? 0 : BAD;
    }

    private int firstOtherwise(int s, int lotBits) {
        for (int l = 0; l < town.lots; l++) {
            if ((lotBits >> l & 1) != 0 && sheets.cellAt(s, l) != town.colourOf(l)) {
                return l;
            }
        }
        return NONE;
    }

    public int plans(int s, int what) {
        int refusal = refusalOfMap(s);
        if (refusal != 0) {
            return refusal;
        }
        if (what < 0 || what > 1) {
            return UNFIT;
        }
        if (firstOtherwise(s, town.builtBits) != NONE) {
            return what == 0 ? 0 : NONE;
        }
        int orders = fits.countOrders(town, town.builtBits, town.unbuiltBits(), sheets.rows[s], 0);
        return what == 0 ? orders : fits.firstOrder();
    }

    public int film(int s) {
        if (!Sheets.isSheet(s)) {
            return BAD;
        }
        sheets.makeRow(s, Sheets.INTS, town.lots);
        for (int l = 0; l < town.lots; l++) {
            sheets.putCell(s, l, town.colourOf(l));
        }
        return town.lots;
    }

    public int laws(int a, int b, int many) {
        int refusal = refusalOfLane(a, b);
        if (refusal != 0) {
            return refusal;
        }
        if (many < 0 || many > MOST_MOVES) {
            return UNFIT;
        }
        int bits = 0;
        for (int t = 0; t < texts.size; t++) {
            if (movesInThought(a, b, t) == many) {
                bits |= 1 << t;
            }
        }
        return bits;
    }

    // ---- orders by lot

    public int drawn(int seed) {
        return isSeed(seed) ? coloursDrawn(seed) : BAD;
    }

    private static boolean isSeed(int seed) {
        return seed >= 0 && seed <= LAST_SEED;
    }

    private int coloursDrawn(int seed) {
        thought.becomes(town);
        long drawnLot = seed + 1L;
        for (int left = Integer.bitCount(thought.unbuiltBits()); left > 0; left--) {
            drawnLot = drawnLot * 48271L % 2147483647L;
            thought.buildHouse(thought.unbuiltLot((int) (drawnLot % left)));
        }
        return thought.howManyColours();
    }

    public long odds(int seed, int seeds, int n, int part) {
        if (!isSeed(seed) || seeds < 1 || seeds > MOST_SEEDS || n < 0 || n > MOST_LOTS || part < 0 || part > 1) {
            return NO;
        }
        int hits = 0;
        for (int i = 0; i < seeds; i++) {
            hits += coloursDrawn(seed + i) <= n ? 1 : 0;
        }
        int divisor = commonDivisor(hits, seeds);
        return (part == 0 ? hits : seeds) / divisor;
    }

    /** The greatest number up to the second one, which is 1 or more, that divides both. */
    private static int commonDivisor(int a, int b) {
        for (int divisor = b; divisor > 1; divisor--) {
            if (a % divisor == 0 && b % divisor == 0) {
                return divisor;
            }
        }
        return 1;
    }

    public int image() {
        kept.becomes(town);
        imageKept = true;
        return town.lots;
    }

    public int back() {
        if (!imageKept) {
            return STATE;
        }
        town.becomes(kept);
        return town.lots;
    }

    // ---- the host

    public int sheet(int s, int sort, int n) {
        if (!Sheets.isSheet(s) || sort < Sheets.MISSING || sort > Sheets.INTS) {
            return BAD;
        }
        if (sort == Sheets.MISSING) {
            sheets.makeRow(s, sort, 0);
            return 1;
        }
        if (n > MOST_CELLS) {
            return BAD;
        }
        if (n < 0) {
            return SIZE_BELOW_0;
        }
        sheets.makeRow(s, sort, n);
        return 1;
    }

    public int cell(int s, int i, int v) {
        if (!Sheets.isSheet(s)) {
            return BAD;
        }
        if (sheets.isMissing(s)) {
            return NOTHING_THERE;
        }
        if (!sheets.hasCell(s, i)) {
            return PLACE_OUTSIDE;
        }
        sheets.putCell(s, i, v);
        return 1;
    }

    public int copy(int s, int i, int other, int j, int n) {
        if (!Sheets.isSheet(s) || !Sheets.isSheet(other)) {
            return BAD;
        }
        if (sheets.isMissing(s) || sheets.isMissing(other)) {
            return NOTHING_THERE;
        }
        if (sheets.sorts[s] != sheets.sorts[other]) {
            return OTHER_SORT;
        }
        if (n < 0 || !sheets.hasRange(s, i, n) || !sheets.hasRange(other, j, n)) {
            return PLACE_OUTSIDE;
        }
        System.arraycopy(sheets.rows[s], i, sheets.rows[other], j, n);
        return n;
    }

    public int lotsBy(int s, int sort, int at, int n) {
        if (!Sheets.isSheet(s) || sort < Sheets.BYTES || sort > Sheets.INTS || n < 0 || n > MOST_LOTS) {
            return BAD;
        }
        if (sheets.isMissing(s)) {
            return NOTHING_THERE;
        }
        if (sheets.sorts[s] != sort) {
            return OTHER_SORT;
        }
        int came = 0;
        int place = at;
        for (int k = 0; k < n; k++) {
            if (!sheets.hasRange(s, place, 3)) {
                return PLACE_OUTSIDE;
            }
            int added = lot(sheets.cellAt(s, place), sheets.cellAt(s, place + 1), sheets.cellAt(s, place + 2));
            came += added >= 0 ? 1 : 0;
            place += 3;
        }
        return came;
    }

    public int taken(int i, int kind) {
        if (kind < 0 || kind > MOST_KINDS) {
            return BAD;
        }
        if (i < 0 || i >= 2 * MOST_LOTS) {
            return PLACE_OUTSIDE;
        }
        boolean isLot = i < MOST_LOTS;
        int l = isLot ? i : i - MOST_LOTS;
        if (isLot ? !town.hasLot(l) : !town.isBuilt(l)) {
            return NOTHING_THERE;
        }
        if (isLot) {
            return Town.isOfKind(town.kinds[l], kind) ? l : OTHER_SORT;
        }
        return kind == MOST_KINDS ? town.colourOf(l) : OTHER_SORT;
    }

    /** The lots, which are beside which, the houses on them, and which text is the law. */
    private static final class Town {
        static final int HOUSE = 0, SHY = 1, PICKY = 2, PROUD = 3, HIDDEN = 4, FOUNTAIN = 5;

        int lots;
        int law;
        int builds;
        int builtBits;
        final int[] kinds = new int[MOST_LOTS];
        final int[] mores = new int[MOST_LOTS];
        final int[] besides = new int[MOST_LOTS];
        final int[] colours = new int[MOST_LOTS];
        final int[] stamps = new int[MOST_LOTS];

        void becomes(Town other) {
            lots = other.lots;
            law = other.law;
            builds = other.builds;
            builtBits = other.builtBits;
            System.arraycopy(other.kinds, 0, kinds, 0, MOST_LOTS);
            System.arraycopy(other.mores, 0, mores, 0, MOST_LOTS);
            System.arraycopy(other.besides, 0, besides, 0, MOST_LOTS);
            System.arraycopy(other.colours, 0, colours, 0, MOST_LOTS);
            System.arraycopy(other.stamps, 0, stamps, 0, MOST_LOTS);
        }

        boolean hasLot(int l) {
            return l >= 0 && l < lots;
        }

        boolean hasTwoLots(int a, int b) {
            return hasLot(a) && hasLot(b) && a != b;
        }

        boolean isBuilt(int l) {
            return hasLot(l) && (builtBits >> l & 1) != 0;
        }

        boolean areBeside(int a, int b) {
            return (besides[a] >> b & 1) != 0;
        }

        int colourOf(int l) {
            return isBuilt(l) ? colours[l] : NONE;
        }

        int unbuiltBits() {
            return (1 << lots) - 1 & ~builtBits;
        }

        /** Of the lots without a house number n, from 0. */
        int unbuiltLot(int n) {
            int left = n;
            for (int l = 0; l < lots; l++) {
                if (!isBuilt(l)) {
                    if (left == 0) {
                        return l;
                    }
                    left--;
                }
            }
            return NONE;
        }

        int colourBits() {
            int bits = 0;
            for (int l = 0; l < lots; l++) {
                if (isBuilt(l)) {
                    bits |= 1 << colours[l];
                }
            }
            return bits;
        }

        int howManyColours() {
            return Integer.bitCount(colourBits());
        }

        int pairsBeside() {
            int ends = 0;
            for (int l = 0; l < lots; l++) {
                ends += Integer.bitCount(besides[l]);
            }
            return ends / 2;
        }

        boolean fitsLot(int kind, int more, int others) {
            return kind >= 0 && kind < MOST_KINDS && more >= 0 && more <= MOST_MORE
                    && (others & ~((1 << lots) - 1)) == 0;
        }

        int addLot(int kind, int more, int others) {
            int l = lots;
            if (l >= MOST_LOTS) {
                return FULL;
            }
            lots++;
            kinds[l] = kind;
            mores[l] = more;
            besides[l] = 0;
            for (int other = 0; other < l; other++) {
                if ((others >> other & 1) != 0) {
                    join(l, other);
                }
            }
            return l;
        }

        void join(int a, int b) {
            besides[a] |= 1 << b;
            besides[b] |= 1 << a;
        }

        void part(int a, int b) {
            besides[a] &= ~(1 << b);
            besides[b] &= ~(1 << a);
        }

        int wouldTake(int l) {
            return colourAmong(l, builtBits, colours);
        }

        /** The colour that a lot would take, were just these houses built, in these colours. */
        int colourAmong(int l, int houses, int[] houseColours) {
            int near = besides[l] & houses;
            int takenBits = 0;
            for (int other = 0; other < lots; other++) {
                if ((near >> other & 1) != 0 && kinds[other] != HIDDEN) {
                    takenBits |= 1 << houseColours[other];
                }
            }
            return colourByKind(kinds[l], mores[l], takenBits);
        }

        static int colourByKind(int kind, int more, int takenBits) {
            switch (kind) {
                case SHY:
                    return least(takenBits | 1);
                case PICKY:
                case HIDDEN:
                    return least(takenBits | 1 << more % 5);
                case PROUD:
                    return Integer.bitCount(takenBits) > more % 4 ? aboveGreatest(takenBits) : least(takenBits | 1);
                case FOUNTAIN:
                    return least(0);
                default:
                    return least(takenBits);
            }
        }

        static int least(int takenBits) {
            return Math.min(LAST_COLOUR, Integer.numberOfTrailingZeros(~takenBits));
        }

        static int aboveGreatest(int takenBits) {
            return Math.min(LAST_COLOUR, 32 - Integer.numberOfLeadingZeros(takenBits));
        }

        static boolean isOfKind(int kind, int asked) {
            switch (asked) {
                case HOUSE: return true;
                case SHY: return kind == SHY || kind == PROUD;
                case PICKY: return kind == PICKY || kind == HIDDEN;
                default: return kind == asked;
            }
        }

        int buildHouse(int l) {
            if (!hasLot(l)) {
                return NONE;
            }
            int colour = wouldTake(l);
            putHouse(l, colour);
            return colour;
        }

        void putHouse(int l, int colour) {
            builds++;
            stamps[l] = builds;
            colours[l] = colour;
            builtBits |= 1 << l;
        }

        void clearLot(int l) {
            builtBits &= ~(1 << l);
        }

        void buildFirst(Order order, int n) {
            for (int i = 0; i < n && i < order.size; i++) {
                buildHouse(order.lots[i]);
            }
        }
    }

    /** What happens when two lots come to be beside each other. */
    private static final class Lanes {
        /** How often any moved. */
        static int openLane(Town town, Texts texts, int a, int b) {
            town.join(a, b);
            int mover = moverOf(town, texts, a, b);
            int moved = 0;
            while (moved < MOST_MOVES && mover >= 0) {
                town.colours[mover] = town.wouldTake(mover);
                moved++;
                mover = moverBeside(town, texts, mover);
            }
            return moved;
        }

        private static int moverBeside(Town town, Texts texts, int l) {
            for (int other = 0; other < town.lots; other++) {
                if (town.areBeside(l, other)) {
                    int mover = moverOf(town, texts, l, other);
                    if (mover >= 0) {
                        return mover;
                    }
                }
            }
            return NONE;
        }

        /** Which of two houses beside each other moves, being alike; -1: none. */
        private static int moverOf(Town town, Texts texts, int a, int b) {
            if (!town.isBuilt(a) || !town.isBuilt(b) || town.colours[a] != town.colours[b]) {
                return NONE;
            }
            int younger = town.stamps[a] > town.stamps[b] ? a : b;
            return texts.says(MOVES, town, younger, town.colours[younger], 0) != 0 ? younger : NONE;
        }
    }

    /** One order of lots. */
    private static final class Order {
        final int[] lots = new int[MOST_LOTS];
        int size;

        /** False, if the sheet doesn't tell just these lots, each once. */
        boolean becomesSheet(Sheets sheets, int s, int lotBits) {
            size = 0;
            if (sheets.sizes[s] != Integer.bitCount(lotBits)) {
                return false;
            }
            int left = lotBits;
            for (int i = 0; i < sheets.sizes[s]; i++) {
                int l = sheets.cellAt(s, i);
                if (l < 0 || l >= MOST_LOTS || (left >> l & 1) == 0) {
                    return false;
                }
                left &= ~(1 << l);
                append(l);
            }
            return true;
        }

        private void append(int l) {
            if (size < MOST_LOTS) {
                lots[size] = l;
                size++;
            }
        }

        /** All that isn't built: by numbers (0), beside most (1), beside fewest others first (2). */
        void becomesRule(Town town, int rule) {
            size = 0;
            int sign = rule == 0 ? 0 : rule == 1 ? -1 : 1;
            int left = town.unbuiltBits();
            for (int i = 0; i < MOST_LOTS && left != 0; i++) {
                int l = leastRanked(town, left, sign);
                left &= ~(1 << l);
                append(l);
            }
        }

        private static int leastRanked(Town town, int lotBits, int sign) {
            int found = Integer.numberOfTrailingZeros(lotBits);
            int foundRank = Integer.MAX_VALUE;
            for (int l = 0; l < MOST_LOTS; l++) {
                int rank = sign * Integer.bitCount(town.besides[l]);
                if ((lotBits >> l & 1) != 0 && rank < foundRank) {
                    found = l;
                    foundRank = rank;
                }
            }
            return found;
        }

        int placeOf(int l) {
            for (int i = 0; i < size; i++) {
                if (lots[i] == l) {
                    return i;
                }
            }
            return 0;
        }

        void swap(int a, int b) {
            int placeA = placeOf(a);
            int placeB = placeOf(b);
            lots[placeA] = b;
            lots[placeB] = a;
        }

        int digits() {
            int number = 0;
            for (int i = 0; i < size; i++) {
                number = number * 10 + lots[i] + 1;
            }
            return number;
        }
    }

    /** Looks through all orders of what isn't built for that of fewest or most colours. */
    private static final class Search {
        boolean forMost;
        int best;
        int bestDigits;

        /** The town is as before when the search ends, but for its stamps. */
        void run(Town town, boolean most) {
            forMost = most;
            best = most ? -1 : Integer.MAX_VALUE;
            bestDigits = 0;
            tryAll(this, town, 0, town.unbuiltBits(), town.colourBits(), 0);
        }

        private static void tryAll(Search search, Town town, int depth, int left, int colourBits, int digits) {
            if (depth > MOST_LOTS || !search.canBeBetter(left, colourBits)) {
                return;
            }
            if (left == 0) {
                search.best = Integer.bitCount(colourBits);
                search.bestDigits = digits;
                return;
            }
            for (int l = 0; l < town.lots; l++) {
                if ((left >> l & 1) != 0) {
                    int colour = town.buildHouse(l);
                    tryAll(search, town, depth + 1, left & ~(1 << l), colourBits | 1 << colour, digits * 10 + l + 1);
                    town.clearLot(l);
                }
            }
        }

        /** Colours never get fewer along an order, and at most one comes with each lot. */
        private boolean canBeBetter(int left, int colourBits) {
            int colours = Integer.bitCount(colourBits);
            return forMost ? colours + Integer.bitCount(left) > best : colours < best;
        }
    }

    /** Counts by sets of lots: each set is a row's index, bit by bit. */
    private static final class Fits {
        private static final int SETS = 1 << MOST_LOTS;

        private final int[] ways = new int[SETS];
        /** Per set, which lots may be built next. */
        private final int[] nexts = new int[SETS];
        private int lotBits;

        /**
         * In how many orders lots can be built behind a base so that each takes the colour that it is due.
         * A house never changes when others are built, so the set of those that are built tells all.
         */
        int countOrders(Town town, int base, int rest, int[] due, int outlaws) {
            lotBits = rest & SETS - 1;
            for (int set = SETS - 1; set >= 0; set--) {
                ways[set] = set == lotBits ? 1 : 0;
                nexts[set] = 0;
                if ((set & ~lotBits) == 0) {
                    for (int l = 0; l < town.lots; l++) {
                        int bit = 1 << l;
                        if ((lotBits & ~set & bit) != 0 && ways[set | bit] > 0
                                && ((outlaws & bit) != 0 || town.colourAmong(l, base | set, due) == due[l])) {
                            ways[set] += ways[set | bit];
                            nexts[set] |= bit;
                        }
                    }
                }
            }
            return ways[0];
        }

        /** Of those that were counted last the first, as digits; -1: there is none. */
        int firstOrder() {
            if (ways[0] == 0) {
                return NONE;
            }
            int digits = 0;
            int set = 0;
            for (int i = 0; i < MOST_LOTS && set != lotBits; i++) {
                int l = Integer.numberOfTrailingZeros(nexts[set]);
                digits = digits * 10 + l + 1;
                set = (set | 1 << l) & SETS - 1;
            }
            return digits;
        }

        /** Per set the fewest colours, each of which goes to lots none of which is beside another. */
        int fewestColours(Town town) {
            Arrays.fill(ways, 0);
            int sets = 1 << town.lots;
            for (int set = 1; set < sets; set++) {
                ways[set] = MOST_LOTS;
                for (int part = set; part > 0; part = part - 1 & set) {
                    if (noneBeside(town, part)) {
                        ways[set] = Math.min(ways[set], 1 + ways[set & ~part]);
                    }
                }
            }
            return ways[sets - 1];
        }

        private static boolean noneBeside(Town town, int set) {
            for (int l = 0; l < town.lots; l++) {
                if ((set >> l & 1) != 0 && (town.besides[l] & set) != 0) {
                    return false;
                }
            }
            return true;
        }
    }

    /** The tape, and the texts that were read from it. */
    private static final class Texts {
        private static final String FIRST_TEXT = "worth 20 - colour * 4 ; waits order ; moves 1 ;";
        private static final int MOST_VALUE = 99;
        /** More than five bindings on each of six levels leave waiting. */
        private static final int STACK = 64;

        int size;
        int tapeSize;
        private final int[] tape = new int[MOST_BYTES];
        private final Reader reader = new Reader();
        private final int[][] codes = new int[MOST_TEXTS][MOST_BYTES];
        private final int[][] starts = new int[MOST_TEXTS][Reader.PARTS + 1];
        private final int[] names = new int[Reader.NAMES];
        private final int[] stack = new int[STACK];

        Texts() {
            for (int i = 0; i < FIRST_TEXT.length(); i++) {
                addByte(FIRST_TEXT.charAt(i));
            }
            readTape();
        }

        void addByte(int value) {
            if (tapeSize < MOST_BYTES) {
                tape[tapeSize] = value;
                tapeSize++;
            }
        }

        /** The place of the fault, or -1: then there is one text more. Empties the tape. */
        int readTape() {
            int fault = reader.read(tape, tapeSize);
            tapeSize = 0;
            if (fault < 0 && size < MOST_TEXTS) {
                System.arraycopy(reader.code, 0, codes[size], 0, MOST_BYTES);
                System.arraycopy(reader.starts, 0, starts[size], 0, Reader.PARTS + 1);
                size++;
            }
            return fault;
        }

        /** What a part of the town's law says of a lot. */
        int says(int part, Town town, int l, int colour, int order) {
            if (town.law < 0 || town.law >= size || !town.hasLot(l)) {
                return 0;
            }
            names[0] = colour;
            names[1] = l;
            names[2] = Integer.bitCount(town.besides[l]);
            names[3] = order;
            names[4] = town.mores[l];
            names[5] = town.lots;
            int value = valueOf(codes[town.law], starts[town.law][part], starts[town.law][part + 1]);
            if (part == MOVES) {
                return value != 0 ? 1 : 0;
            }
            return Math.max(0, Math.min(MOST_VALUE, value));
        }

        private int valueOf(int[] code, int from, int to) {
            int height = 0;
            for (int i = from; i < to; i++) {
                int step = code[i];
                if (step < Reader.SIGN_STEP) {
                    if (height >= STACK) {
                        return 0;
                    }
                    stack[height] = step < Reader.NAME_STEP ? step : names[step - Reader.NAME_STEP];
                    height++;
                } else if (Reader.isUnary(step)) {
                    if (height < 1) {
                        return 0;
                    }
                    stack[height - 1] = unary(step, stack[height - 1]);
                } else {
                    if (height < 2) {
                        return 0;
                    }
                    height--;
                    stack[height - 1] = binary(step, stack[height - 1], stack[height]);
                }
            }
            return stack[0];
        }

        private static int unary(int step, int a) {
            if (step == Reader.SIGN_STEP + Reader.NEGATE) {
                return -a;
            }
            return a == 0 ? 1 : 0;
        }

        private static int binary(int step, int a, int b) {
            switch (step - Reader.SIGN_STEP) {
                case Reader.OR: return a != 0 || b != 0 ? 1 : 0;
                case Reader.AND: return a != 0 && b != 0 ? 1 : 0;
                case '<': return a < b ? 1 : 0;
                case '=': return a == b ? 1 : 0;
                case '+': return a + b;
                case '-': return a - b;
                default: return a * b;
            }
        }
    }

    /** Reads a tape into steps for a stack: what is to be joined stands ahead of the sign that joins it. */
    private static final class Reader {
        static final int PARTS = 3, NAMES = 6;
        static final int NAME_STEP = 10000, SIGN_STEP = 20000;
        static final int NEGATE = 10;
        /** Tokens; each sign is its own byte, so these stay below 40. The keys stand as in word(). */
        static final int END = 0, NUMBER = 1, NAME = 2, WRONG = 3;
        static final int FIRST_KEY = 4, OR = 7, AND = 8, NOT = 9;
        private static final int WORDS = 12;
        private static final int MOST_DIGITS = 4, MOST_OPEN = 5;

        final int[] code = new int[MOST_BYTES];
        final int[] starts = new int[PARTS + 1];
        private final int[] tape = new int[MOST_BYTES];
        private int tapeSize;
        private int codeSize;
        private int at;
        private int place;
        private int token;
        private int value;
        private int fault;

        /** The place of the fault; -1: none. */
        int read(int[] bytes, int size) {
            System.arraycopy(bytes, 0, tape, 0, MOST_BYTES);
            tapeSize = size;
            codeSize = 0;
            at = 0;
            fault = -1;
            next();
            for (int part = 0; part < PARTS; part++) {
                starts[part] = codeSize;
                expect(FIRST_KEY + part);
                readOr(0);
                expect(';');
            }
            starts[PARTS] = codeSize;
            if (token != END) {
                fail();
            }
            return fault;
        }

        /** The first fault stays; no token is read behind it, so that all that is open ends. */
        private void fail() {
            if (fault < 0) {
                fault = place;
            }
            token = WRONG;
        }

        private void expect(int wanted) {
            if (token == wanted) {
                next();
            } else {
                fail();
            }
        }

        private void readOr(int open) {
            readAnd(open);
            for (int i = 0; i < MOST_BYTES && token == OR; i++) {
                next();
                readAnd(open);
                addStep(SIGN_STEP + OR);
            }
        }

        private void readAnd(int open) {
            readNot(open);
            for (int i = 0; i < MOST_BYTES && token == AND; i++) {
                next();
                readNot(open);
                addStep(SIGN_STEP + AND);
            }
        }

        private void readNot(int open) {
            if (token == NOT) {
                if (mayOpen(open)) {
                    next();
                    readNot(open + 1);
                    addStep(SIGN_STEP + NOT);
                }
                return;
            }
            readSum(open);
            if (token == '<' || token == '=') {
                int sign = token;
                next();
                readSum(open);
                addStep(SIGN_STEP + sign);
            }
        }

        private void readSum(int open) {
            readTerm(open);
            for (int i = 0; i < MOST_BYTES && (token == '+' || token == '-'); i++) {
                int sign = token;
                next();
                readTerm(open);
                addStep(SIGN_STEP + sign);
            }
        }

        private void readTerm(int open) {
            readOne(open);
            for (int i = 0; i < MOST_BYTES && token == '*'; i++) {
                next();
                readOne(open);
                addStep(SIGN_STEP + '*');
            }
        }

        private void readOne(int open) {
            if (token == NUMBER || token == NAME) {
                addStep(token == NAME ? NAME_STEP + value : value);
                next();
            } else if (token == '-') {
                if (mayOpen(open)) {
                    next();
                    readOne(open + 1);
                    addStep(SIGN_STEP + NEGATE);
                }
            } else if (token == '(') {
                if (mayOpen(open)) {
                    next();
                    readOr(open + 1);
                    expect(')');
                }
            } else {
                fail();
            }
        }

        /** One more than the most is a fault of the token that would open it. */
        private boolean mayOpen(int open) {
            if (open >= MOST_OPEN) {
                fail();
                return false;
            }
            return true;
        }

        private void addStep(int step) {
            if (codeSize < MOST_BYTES) {
                code[codeSize] = step;
                codeSize++;
            }
        }

        private void next() {
            if (fault >= 0) {
                return;
            }
            while (at < tapeSize && (tape[at] == 32 || tape[at] == 10)) {
                at++;
            }
            place = at;
            if (at >= tapeSize) {
                token = END;
            } else if (isLetter(tape[at])) {
                readWord();
            } else if (isDigit(tape[at])) {
                readNumber();
            } else if (isSign(tape[at])) {
                token = tape[at];
                at++;
            } else {
                fail();
            }
        }

        private void readWord() {
            while (at < tapeSize && isLetter(tape[at])) {
                at++;
            }
            for (int w = 0; w < WORDS; w++) {
                if (standsAtPlace(word(w))) {
                    token = w < NAMES ? NAME : FIRST_KEY + w - NAMES;
                    value = w;
                    return;
                }
            }
            fail();
        }

        private void readNumber() {
            token = NUMBER;
            value = 0;
            while (at < tapeSize && isDigit(tape[at])) {
                value = value * 10 + tape[at] - '0';
                at++;
            }
            if (at - place > MOST_DIGITS) {
                fail();
            }
        }

        private boolean standsAtPlace(String word) {
            if (word.length() != at - place) {
                return false;
            }
            for (int i = 0; i < word.length(); i++) {
                if (word.charAt(i) != tape[place + i]) {
                    return false;
                }
            }
            return true;
        }

        private static String word(int w) {
            switch (w) {
                case 0: return "colour";
                case 1: return "lot";
                case 2: return "beside";
                case 3: return "order";
                case 4: return "more";
                case 5: return "lots";
                case 6: return "worth";
                case 7: return "waits";
                case 8: return "moves";
                case 9: return "or";
                case 10: return "and";
                default: return "not";
            }
        }

        private static boolean isLetter(int b) {
            return b >= 'a' && b <= 'z';
        }

        private static boolean isDigit(int b) {
            return b >= '0' && b <= '9';
        }

        private static boolean isSign(int b) {
            return b == '(' || b == ')' || b == ';' || b == '+' || b == '-' || b == '*' || b == '<' || b == '=';
        }

        static boolean isUnary(int step) {
            return step == SIGN_STEP + NOT || step == SIGN_STEP + NEGATE;
        }
    }

    /** Rows of numbers; a missing one is of sort -1. */
    private static final class Sheets {
        static final int MISSING = -1, BYTES = 0, SHORTS = 1, INTS = 2;

        final int[][] rows = new int[MOST_SHEETS][MOST_CELLS];
        final int[] sizes = new int[MOST_SHEETS];
        final int[] sorts = new int[MOST_SHEETS];

        Sheets() {
            Arrays.fill(sorts, MISSING);
        }

        static boolean isSheet(int s) {
            return s >= 0 && s < MOST_SHEETS;
        }

        boolean isMissing(int s) {
            return sorts[s] == MISSING;
        }

        boolean hasCell(int s, int i) {
            return i >= 0 && i < sizes[s];
        }

        /** Subtracts, as the sum of a place and a size could wrap. */
        boolean hasRange(int s, int i, int n) {
            return i >= 0 && i <= sizes[s] && n <= sizes[s] - i;
        }

        int cellAt(int s, int i) {
            return hasCell(s, i) ? rows[s][i] : 0;
        }

        void makeRow(int s, int sort, int size) {
            sorts[s] = sort;
            sizes[s] = size;
            Arrays.fill(rows[s], 0);
        }

        void putCell(int s, int i, int v) {
            rows[s][i] = sorts[s] == BYTES ? (byte) v : sorts[s] == SHORTS ? (short) v : v;
        }
    }
}

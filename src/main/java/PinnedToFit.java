/** A dress that is pinned to fit a body; ../shared/DOC.md tells what each call answers. */
public final class PinnedToFit {
    private static final int NOT_TOLD = -1;
    private static final int NO_ROOM = -2;
    private static final int CANNOT_BE = -3;
    private static final int NONE = -4;
    private static final int NOTHING_HELD = -11;
    private static final int OTHER_KIND = -12;
    private static final int NO_PLACE = -13;
    private static final int BELOW_ZERO = -14;
    private static final int NO_FAILURE = -15;
    private static final int MAY_BE_BELOW_ZERO = -1000000000;
    private static final int FAULT_OF_FORM = -1000;
    private static final int FAULT_OF_SENSE = -2000;

    private static final int GIRTH = 0;
    private static final int WIDTH = 1;
    private static final int KEPT = 2;
    private static final int GIVE = 3;
    private static final int SIZES_OF_RING = 4;
    private static final int MOST_RINGS = 6;
    private static final int LONGEST = 99;
    private static final int MOST_KEPT = 9;
    private static final int MOST_HOLES = 99;
    private static final int MOST_MINUTES = 9999;
    private static final int MOST_LOOSE = 30;

    private static final int STANDING = 0;
    private static final int SITTING = 1;
    private static final int ARMS_UP = 2;
    private static final int MOVES = 4;

    private static final int BYTES = 0;
    private static final int SHORTS = 1;
    private static final int INTS = 2;
    private static final int MOST_ELEMENTS = 100;
    private static final int SHELVES = 8;

    private static final int KINDS = 8;
    private static final int SET = 4;
    private static final int MOST_FIGURE = 9;
    private static final int MOST_PINS = 6;
    private static final int MOST_PINS_IN_ORDERS = 5;

    private final Dress now = new Dress();
    private final Dress pictured = new Dress();
    private final Dress mind = new Dress();
    private final Shelf[] shelves = new Shelf[SHELVES];
    private final Shelf noShelf = new Shelf();
    private final Pin[] kinds = new Pin[KINDS];
    private final Pin plainPin = new Pin();
    private final Text text = new Text();
    private boolean imageTaken;

    public PinnedToFit() {
        for (int d = 0; d < shelves.length; d++) {
            shelves[d] = new Shelf();
        }
        kinds[0] = plainPin;
        kinds[1] = new Taken();
        kinds[2] = new Let();
        kinds[3] = new Turned();
        kinds[SET] = new SetIn();
        kinds[5] = new Undone();
        kinds[6] = new Shown();
        kinds[7] = new Last();
    }

    // ---- dresses

    public int dress(int d) {
        int refusal = rowRefusal(d, BYTES);
        if (refusal != 0) {
            return refusal;
        }
        Shelf row = shelfAt(d);
        int statements = statementsOf(row);
        if (statements < 0) {
            return statements;
        }
        mind.becomeLike(now);
        text.place = 0;
        for (int k = 0; k < statements; k++) {
            int letterPlace = text.place;
            if (!text.readStatement(row) || !carryOut(mind)) {
                return FAULT_OF_SENSE - letterPlace;
            }
        }
        now.becomeLike(mind);
        return statements;
    }

    public int ring(int ring, int what) {
        return now.has(ring) && within(what, 0, SIZES_OF_RING - 1) ? now.get(ring, what) : NOT_TOLD;
    }

    public int line(int what, int v) {
        if (what == 0 && within(v, 0, MOST_FIGURE)) {
            int before = now.tight;
            now.tight = v;
            return before;
        }
        if (what == 1 && within(v, 0, MOST_LOOSE)) {
            int before = now.loose;
            now.loose = v;
            return before;
        }
        return NOT_TOLD;
    }

    // ---- pins

    public int may(int d, int ring) {
        int refusal = now.has(ring) ? pinRefusal(d) : NOT_TOLD;
        if (refusal != 0) {
            return refusal;
        }
        Shelf held = shelfAt(d);
        return now.allows(kindAt(held.kind), held.figure, ring) ? 1 : 0;
    }

    public int pin(int d, int ring) {
        int refusal = now.has(ring) ? pinRefusal(d) : NOT_TOLD;
        if (refusal != 0) {
            return refusal;
        }
        Shelf held = shelfAt(d);
        return now.tryPin(kindAt(held.kind), held.figure, ring) ? now.lacking() : CANNOT_BE;
    }

    // ---- how it fits

    public int ease(int ring, int move) {
        boolean told = now.has(ring) && within(move, 0, MOVES - 1);
        return told ? now.easeAt(ring, move) : MAY_BE_BELOW_ZERO + NOT_TOLD;
    }

    public int fit(int move) {
        if (move == -1) {
            int all = fitting(0);
            for (int m = 1; m < MOVES; m++) {
                all &= fitting(m);
            }
            return all;
        }
        return within(move, 0, MOVES - 1) ? fitting(move) : NOT_TOLD;
    }

    public int lacks() {
        return now.lacking();
    }

    // ---- what would be best

    public int bestPin(int sets, int what) {
        if (!within(sets, 0, 1) || !within(what, 0, 1)) {
            return NOT_TOLD;
        }
        int best = NONE;
        int bestLacks = now.lacking();
        int bestCost = 0;
        for (int name = 0; name < 100 * now.rings; name++) {
            int kind = name / 10 % 10;
            int figure = name % 10;
            if (kind >= KINDS || kind == SET && sets == 0) {
                continue;
            }
            mind.becomeLike(now);
            if (!mind.tryPin(kindAt(kind), figure, name / 100)) {
                continue;
            }
            int lacks = mind.lacking();
            int cost = kindAt(kind).cost(figure);
            // A pin that lacks no less than none at all is not wanted, however cheap it is.
            if (lacks < bestLacks || best != NONE && lacks == bestLacks && cost < bestCost) {
                best = name;
                bestLacks = lacks;
                bestCost = cost;
            }
        }
        return what == 0 ? best : bestLacks;
    }

    public int least(int d, int what) {
        int refusal = within(what, 0, 1) ? pinsRefusal(d) : NOT_TOLD;
        if (refusal != 0) {
            return refusal;
        }
        Shelf row = shelfAt(d);
        int sets = 1 << pinsIn(row);
        int best = 0;
        int bestLacks = now.lacking();
        int bestCost = 0;
        for (int set = 1; set < sets; set++) {
            if (!sewSetInMind(row, set)) {
                continue;
            }
            int lacks = mind.lacking();
            int cost = costOfSet(row, set);
            if (lacks < bestLacks || lacks == bestLacks && cost < bestCost) {
                best = set;
                bestLacks = lacks;
                bestCost = cost;
            }
        }
        return what == 0 ? best : bestLacks;
    }

    public int first(int d) {
        int refusal = pinsRefusal(d);
        if (refusal != 0) {
            return refusal;
        }
        Shelf row = shelfAt(d);
        int pins = pinsIn(row);
        mind.becomeLike(now);
        for (int n = 0; n < pins; n++) {
            if (!sewPinOfRow(mind, row, n)) {
                return n;
            }
        }
        return NONE;
    }

    public int orders(int d, int what) {
        int refusal = within(what, 0, 1) ? pinsRefusal(d) : NOT_TOLD;
        if (refusal != 0) {
            return refusal;
        }
        Shelf row = shelfAt(d);
        int pins = pinsIn(row);
        if (pins > MOST_PINS_IN_ORDERS) {
            return NO_ROOM;
        }
        int all = 1;
        for (int n = 2; n <= pins; n++) {
            all *= n;
        }
        int found = 0;
        int least = NONE;
        for (int order = 0; order < all; order++) {
            if (sewOrderInMind(row, order)) {
                int lacks = mind.lacking();
                least = found == 0 ? lacks : Math.min(least, lacks);
                found++;
            }
        }
        return what == 0 ? found : least;
    }

    // ---- hems, darts, stripes, measures

    public int hem(int n, int b, int days) {
        if (!within(n, 1, LONGEST) || !within(b, 0, LONGEST) || !within(days, 0, 20)) {
            return NOT_TOLD;
        }
        int length = n;
        for (int day = 0; day < days; day++) {
            length = Math.min(LONGEST, length + b * length / 100);
        }
        return length;
    }

    public int darts(int a, int b, int c, int d) {
        boolean widthsTold = within(a, 0, LONGEST) && within(c, 0, LONGEST);
        boolean lengthsTold = within(b, 1, LONGEST) && within(d, 1, LONGEST);
        if (!widthsTold || !lengthsTold) {
            return NOT_TOLD;
        }
        return a * d == c * b ? 1 : 0;
    }

    public int stripes(int m, int i, int n, int j) {
        if (!within(m, 1, 60) || !within(n, 1, 60) || !within(i, 0, m - 1) || !within(j, 0, n - 1)) {
            return NOT_TOLD;
        }
        for (int k = 0; k < n; k++) {
            int place = i + k * m;
            if (place % n == j) {
                return place;
            }
        }
        return NONE;
    }

    public int measures(int d, int what) {
        int refusal = within(what, 0, 1) ? rowRefusal(d, SHORTS) : NOT_TOLD;
        if (refusal != 0) {
            return refusal;
        }
        Shelf row = shelfAt(d);
        if (!tellsMeasures(row)) {
            return NO_PLACE;
        }
        return what == 0 ? firstWrongMeasure(row) : ringMostWrong(row);
    }

    // ---- sizes, old dresses, shapes, seeds

    public int sizes(int d, int e, int what) {
        if (!isShelf(d) || !isShelf(e) || !within(what, 0, 2)) {
            return NOT_TOLD;
        }
        int refusal = lengthsRefusal(d, 6);
        if (refusal == 0) {
            refusal = lengthsRefusal(e, 20);
        }
        if (refusal != 0) {
            return refusal;
        }
        Shelf sizes = shelfAt(d);
        Shelf girls = shelfAt(e);
        switch (what) {
            case 0:
                return girlsWithoutSize(sizes, 0, girls);
            case 1:
                return spareOfSizes(sizes, 0, girls);
            default:
                return oneMoreSize(sizes, girls);
        }
    }

    public int old(int d) {
        int refusal = lengthsRefusal(d, 6);
        if (refusal != 0) {
            return refusal;
        }
        Shelf widths = shelfAt(d);
        int usedRings = 0;
        int had = 0;
        for (int k = 0; k < widths.size; k++) {
            int ring = tightestSource(widths.at(k), usedRings);
            if (ring != NONE) {
                usedRings |= 1 << ring;
                had++;
            }
        }
        return had;
    }

    public int shape(int ring, int f) {
        if (!now.has(ring) || !within(f, 0, MOST_FIGURE)) {
            return MAY_BE_BELOW_ZERO + NOT_TOLD;
        }
        return now.get(ring, WIDTH) + f - now.tight - now.get(ring, GIRTH);
    }

    public int seeded(int n, int z, int what) {
        if (!within(n, 1, 30) || !within(what, 0, 1)) {
            return NOT_TOLD;
        }
        if (now.rings == 0) {
            return CANNOT_BE;
        }
        mind.becomeLike(now);
        int seed = z;
        int put = 0;
        for (int k = 0; k < n; k++) {
            seed = nextSeed(seed);
            int ring = drawBelow(seed, now.rings);
            seed = nextSeed(seed);
            int kind = drawBelow(seed, KINDS);
            seed = nextSeed(seed);
            int figure = drawBelow(seed, MOST_FIGURE + 1);
            if (mind.tryPin(kindAt(kind), figure, ring)) {
                put++;
            }
        }
        return what == 0 ? mind.lacking() : put;
    }

    public int judge(int move, int d) {
        if (!within(move, 0, MOVES - 1) || !isShelf(d)) {
            return NOT_TOLD;
        }
        Shelf told = shelfAt(d);
        int refusal = told.rowRefusal();
        if (refusal != 0) {
            return refusal;
        }
        int both = Math.min(told.size, now.rings);
        int skipped = told.leastNumber();
        for (int ring = 0; ring < both; ring++) {
            int v = told.at(ring);
            if (v != skipped && v != now.easeAt(ring, move)) {
                return ring;
            }
        }
        return told.size == now.rings ? NONE : both;
    }

    // ---- the image, what is told

    public int image() {
        pictured.becomeLike(now);
        imageTaken = true;
        return now.rings;
    }

    public int restore() {
        if (!imageTaken) {
            return CANNOT_BE;
        }
        now.becomeLike(pictured);
        return now.rings;
    }

    public int count(int what) {
        switch (what) {
            case 0:
                return now.rings;
            case 1:
                return now.holes;
            case 2:
                return now.spent;
            case 3:
                return now.tight;
            case 4:
                return now.loose;
            case 5:
                return now.total(KEPT);
            case 6:
                return now.total(WIDTH);
            default:
                return NOT_TOLD;
        }
    }

    // ---- shelves

    public int keep(int d, int what, int k, int figure) {
        if (!isShelf(d)) {
            return NOT_TOLD;
        }
        if (what == 0) {
            shelfAt(d).holdNothing();
            return 0;
        }
        if (what != 1 || !within(k, 0, KINDS - 1) || !within(figure, 0, MOST_FIGURE)) {
            return NOT_TOLD;
        }
        shelfAt(d).holdPin(k, figure);
        return 0;
    }

    public int row(int d, int sort, int n) {
        if (!isShelf(d) || !within(sort, BYTES, INTS) || n > MOST_ELEMENTS) {
            return NOT_TOLD;
        }
        if (n < 0) {
            return BELOW_ZERO;
        }
        shelfAt(d).holdRow(sort, n);
        return 0;
    }

    public int put(int d, int i, int v) {
        if (!isShelf(d)) {
            return NOT_TOLD;
        }
        Shelf held = shelfAt(d);
        int refusal = held.rowRefusal();
        if (refusal != 0) {
            return refusal;
        }
        if (!held.hasPlaces(i, 1)) {
            return NO_PLACE;
        }
        held.putAt(i, v);
        return 0;
    }

    public long element(int d, int i) throws IllegalArgumentException, IllegalStateException {
        if (!isShelf(d)) {
            throw new IllegalArgumentException("no such shelf");
        }
        Shelf held = shelfAt(d);
        if (held.rowRefusal() != 0) {
            throw new IllegalStateException("no row");
        }
        if (!held.hasPlaces(i, 1)) {
            throw new IllegalStateException("no such place");
        }
        return held.at(i);
    }

    public int copy(int d, int i, int e, int j, int n) {
        if (!isShelf(d) || !isShelf(e)) {
            return NOT_TOLD;
        }
        Shelf from = shelfAt(d);
        Shelf to = shelfAt(e);
        if (from.held == Shelf.NOTHING || to.held == Shelf.NOTHING) {
            return NOTHING_HELD;
        }
        if (from.rowRefusal() != 0 || to.rowRefusal() != 0 || from.sort != to.sort) {
            return OTHER_KIND;
        }
        if (!from.hasPlaces(i, n) || !to.hasPlaces(j, n)) {
            return NO_PLACE;
        }
        to.takeFrom(from, i, j, n);
        return n;
    }

    public int minutes(int d) {
        int refusal = pinRefusal(d);
        if (refusal != 0) {
            return refusal;
        }
        Shelf held = shelfAt(d);
        return kindAt(held.kind).cost(held.figure);
    }

    public int toss(int d) {
        int refusal = pinRefusal(d);
        if (refusal != 0) {
            return refusal;
        }
        Shelf held = shelfAt(d);
        Pin kind = kindAt(held.kind);
        int figure = held.figure;
        try {
            kind.fail(figure);
            return NO_FAILURE;
        } catch (UnsupportedOperationException failureOfSet) {
            return 200 + kind.cost(figure);
        } catch (IllegalArgumentException failureOfTurned) {
            return 100 + figure;
        } catch (IllegalStateException failureOfPin) {
            return figure;
        }
    }

    // ---- what the calls share

    private static boolean within(int v, int low, int high) {
        return v >= low && v <= high;
    }

    private static boolean isShelf(int d) {
        return within(d, 0, SHELVES - 1);
    }

    private Shelf shelfAt(int d) {
        Shelf shelf = d >= 0 && d < shelves.length ? shelves[d] : null;
        return shelf == null ? noShelf : shelf;
    }

    private Pin kindAt(int kind) {
        Pin pin = kind >= 0 && kind < kinds.length ? kinds[kind] : null;
        return pin == null ? plainPin : pin;
    }

    private int pinRefusal(int d) {
        return isShelf(d) ? shelfAt(d).pinRefusal() : NOT_TOLD;
    }

    private int rowRefusal(int d, int sort) {
        if (!isShelf(d)) {
            return NOT_TOLD;
        }
        Shelf held = shelfAt(d);
        int refusal = held.rowRefusal();
        return refusal == 0 && held.sort != sort ? OTHER_KIND : refusal;
    }

    private int pinsRefusal(int d) {
        int refusal = rowRefusal(d, BYTES);
        return refusal == 0 && !tellsPins(shelfAt(d)) ? NO_PLACE : refusal;
    }

    private int lengthsRefusal(int d, int most) {
        int refusal = rowRefusal(d, BYTES);
        return refusal == 0 && !tellsLengths(shelfAt(d), most) ? NO_PLACE : refusal;
    }

    // ---- dresses as texts

    /** How many statements the text has; the fault of its form, which goes ahead of all faults of sense. */
    private int statementsOf(Shelf row) {
        text.place = 0;
        int statements = 0;
        for (int k = 0; k == 0 || k < MOST_ELEMENTS && text.place < row.size; k++) {
            if (!text.readStatement(row)) {
                return FAULT_OF_FORM - text.place;
            }
            statements++;
        }
        return statements;
    }

    /** Does what the statement that was read last tells; false: it is not as told. */
    private boolean carryOut(Dress on) {
        int v = text.number(0);
        switch (text.letter) {
            case 'r':
                return on.addRing(v, text.number(1), text.number(2), text.number(3));
            case 't':
                on.tight = v;
                return true;
            case 'l':
                if (v > MOST_LOOSE) {
                    return false;
                }
                on.loose = v;
                return true;
            default:
                return v < KINDS && on.tryPin(kindAt(v), text.number(1), text.number(2));
        }
    }

    // ---- rows of pins

    private boolean tellsPins(Shelf row) {
        if (row.size % 3 != 0 || row.size > 3 * MOST_PINS) {
            return false;
        }
        for (int k = 0; k < row.size; k += 3) {
            boolean told = within(row.at(k), 0, KINDS - 1) && within(row.at(k + 1), 0, MOST_FIGURE);
            if (!told || !now.has(row.at(k + 2))) {
                return false;
            }
        }
        return true;
    }

    private static int pinsIn(Shelf row) {
        return row.size / 3;
    }

    private boolean sewPinOfRow(Dress on, Shelf row, int n) {
        return on.tryPin(kindAt(row.at(3 * n)), row.at(3 * n + 1), row.at(3 * n + 2));
    }

    private boolean sewSetInMind(Shelf row, int set) {
        int pins = pinsIn(row);
        mind.becomeLike(now);
        for (int n = 0; n < pins; n++) {
            if ((set >> n & 1) != 0 && !sewPinOfRow(mind, row, n)) {
                return false;
            }
        }
        return true;
    }

    private int costOfSet(Shelf row, int set) {
        int pins = pinsIn(row);
        int cost = 0;
        for (int n = 0; n < pins; n++) {
            if ((set >> n & 1) != 0) {
                cost += kindAt(row.at(3 * n)).cost(row.at(3 * n + 1));
            }
        }
        return cost;
    }

    /** The order's number, divided by how many pins are left, tells by its rest which of them is the next. */
    private boolean sewOrderInMind(Shelf row, int order) {
        int rest = order;
        int used = 0;
        mind.becomeLike(now);
        for (int left = pinsIn(row); left > 0; left--) {
            int n = unusedPlace(used, rest % left);
            rest /= left;
            used |= 1 << n;
            if (!sewPinOfRow(mind, row, n)) {
                return false;
            }
        }
        return true;
    }

    /** The place of the unused pin that has so many unused ones ahead of it. */
    private static int unusedPlace(int used, int ahead) {
        int passed = 0;
        for (int n = 0; n < MOST_PINS; n++) {
            if ((used >> n & 1) == 0) {
                if (passed == ahead) {
                    return n;
                }
                passed++;
            }
        }
        return 0;
    }

    // ---- fits, measures, sizes, widths, draws

    private int fitting(int move) {
        int bits = 0;
        for (int ring = 0; ring < now.rings; ring++) {
            if (now.fits(ring, move)) {
                bits |= 1 << ring;
            }
        }
        return bits;
    }

    private boolean tellsMeasures(Shelf row) {
        if (row.size % 3 != 0) {
            return false;
        }
        for (int k = 0; k < row.size; k += 3) {
            int one = row.at(k);
            int other = row.at(k + 1);
            if (!now.has(one) || !now.has(other) || one == other) {
                return false;
            }
        }
        return true;
    }

    private boolean isWrongMeasure(Shelf row, int k) {
        return now.get(row.at(k), GIRTH) - now.get(row.at(k + 1), GIRTH) != row.at(k + 2);
    }

    private int firstWrongMeasure(Shelf row) {
        for (int k = 0; k < row.size; k += 3) {
            if (isWrongMeasure(row, k)) {
                return k;
            }
        }
        return NONE;
    }

    private int ringMostWrong(Shelf row) {
        int worst = NONE;
        int most = 0;
        for (int ring = 0; ring < now.rings; ring++) {
            int times = timesWrong(row, ring);
            if (times > most) {
                worst = ring;
                most = times;
            }
        }
        return worst;
    }

    private int timesWrong(Shelf row, int ring) {
        int times = 0;
        for (int k = 0; k < row.size; k += 3) {
            if ((row.at(k) == ring || row.at(k + 1) == ring) && isWrongMeasure(row, k)) {
                times++;
            }
        }
        return times;
    }

    private static boolean tellsLengths(Shelf row, int most) {
        if (!within(row.size, 1, most)) {
            return false;
        }
        for (int k = 0; k < row.size; k++) {
            if (!within(row.at(k), 1, LONGEST)) {
                return false;
            }
        }
        return true;
    }

    /** The least size that is as much as is wanted; 0: there is none. One more size of 0 is none. */
    private static int sizeTaken(Shelf sizes, int oneMore, int wanted) {
        int taken = oneMore >= wanted ? oneMore : 0;
        for (int k = 0; k < sizes.size; k++) {
            int size = sizes.at(k);
            if (size >= wanted && (taken == 0 || size < taken)) {
                taken = size;
            }
        }
        return taken;
    }

    private int girlsWithoutSize(Shelf sizes, int oneMore, Shelf girls) {
        int without = 0;
        for (int k = 0; k < girls.size; k++) {
            if (sizeTaken(sizes, oneMore, girls.at(k) + now.tight) == 0) {
                without++;
            }
        }
        return without;
    }

    private int spareOfSizes(Shelf sizes, int oneMore, Shelf girls) {
        int spare = 0;
        for (int k = 0; k < girls.size; k++) {
            int wanted = girls.at(k) + now.tight;
            int taken = sizeTaken(sizes, oneMore, wanted);
            if (taken != 0) {
                spare += taken - wanted;
            }
        }
        return spare;
    }

    private int oneMoreSize(Shelf sizes, Shelf girls) {
        int best = 0;
        int fewestWithout = 0;
        int leastSpare = 0;
        for (int size = 1; size <= LONGEST; size++) {
            int without = girlsWithoutSize(sizes, size, girls);
            int spare = spareOfSizes(sizes, size, girls);
            boolean better = without < fewestWithout || without == fewestWithout && spare < leastSpare;
            if (best == 0 || better) {
                best = size;
                fewestWithout = without;
                leastSpare = spare;
            }
        }
        return best;
    }

    /**
     * Of the rings not used yet the one with the least cloth that is enough, so that
     * the wider ones are left for what else is wanted.
     */
    private int tightestSource(int wanted, int usedRings) {
        int source = NONE;
        int least = 0;
        for (int ring = 0; ring < now.rings; ring++) {
            int cloth = now.get(ring, WIDTH) + now.get(ring, KEPT);
            boolean free = (usedRings >> ring & 1) == 0;
            if (free && cloth >= wanted && (source == NONE || cloth < least)) {
                source = ring;
                least = cloth;
            }
        }
        return source;
    }

    private static int nextSeed(int z) {
        return z * 1103515245 + 12345;
    }

    private static int drawBelow(int z, int n) {
        return n > 0 ? ((z & 0x7fffffff) >> 16) % n : 0;
    }

    // ---- what the dress is, without its shelves

    private static final class Dress {
        private final int[] cells = new int[SIZES_OF_RING * MOST_RINGS];
        private int rings;
        private int tight = 1;
        private int loose = 8;
        private int holes;
        private int spent;

        void becomeLike(Dress other) {
            System.arraycopy(other.cells, 0, cells, 0, Math.min(other.cells.length, cells.length));
            rings = other.rings;
            tight = other.tight;
            loose = other.loose;
            holes = other.holes;
            spent = other.spent;
        }

        boolean has(int ring) {
            return ring >= 0 && ring < rings;
        }

        int get(int ring, int what) {
            int cell = SIZES_OF_RING * ring + what;
            return cell >= 0 && cell < cells.length ? cells[cell] : 0;
        }

        private void set(int ring, int what, int v) {
            int cell = SIZES_OF_RING * ring + what;
            if (cell >= 0 && cell < cells.length) {
                cells[cell] = v;
            }
        }

        void widen(int ring, int by) {
            set(ring, WIDTH, Math.max(1, Math.min(LONGEST, get(ring, WIDTH) + by)));
        }

        void keepMore(int ring, int by) {
            set(ring, KEPT, Math.max(0, Math.min(MOST_KEPT, get(ring, KEPT) + by)));
        }

        void pierce(int by) {
            holes = Math.max(0, Math.min(MOST_HOLES, holes + by));
        }

        /** False: a number is out of range, or there is no room. */
        boolean addRing(int girth, int width, int kept, int give) {
            if (!within(girth, 1, LONGEST) || !within(width, 1, LONGEST) || rings >= MOST_RINGS) {
                return false;
            }
            set(rings, GIRTH, girth);
            set(rings, WIDTH, width);
            set(rings, KEPT, kept);
            set(rings, GIVE, give);
            rings++;
            return true;
        }

        boolean allows(Pin kind, int figure, int ring) {
            return has(ring) && kind.canBe(this, ring, figure);
        }

        /** False: the pin may not be put at the ring, and nothing is done. */
        boolean tryPin(Pin kind, int figure, int ring) {
            if (!allows(kind, figure, ring)) {
                return false;
            }
            kind.work(this, ring, figure);
            spent = Math.min(MOST_MINUTES, spent + kind.cost(figure));
            return true;
        }

        private int needOf(int ring, int move) {
            switch (move) {
                case STANDING:
                    return 0;
                case SITTING:
                    return get(ring, GIVE);
                case ARMS_UP:
                    return get(ring, GIVE) / 2 + (ring == 0 ? 2 : 0);
                default:
                    return ring % 2 == 0 ? 1 : 0;
            }
        }

        int easeAt(int ring, int move) {
            return get(ring, WIDTH) - get(ring, GIRTH) - needOf(ring, move);
        }

        boolean fits(int ring, int move) {
            int ease = easeAt(ring, move);
            return ease >= tight && (move != STANDING || ease <= loose);
        }

        int lacking() {
            int lacks = 0;
            for (int ring = 0; ring < rings; ring++) {
                for (int move = 0; move < MOVES; move++) {
                    lacks += Math.max(0, tight - easeAt(ring, move));
                }
                lacks += Math.max(0, easeAt(ring, STANDING) - loose);
            }
            return lacks;
        }

        int total(int what) {
            int sum = 0;
            for (int ring = 0; ring < rings; ring++) {
                sum += get(ring, what);
            }
            return sum;
        }
    }

    // ---- kinds of pins: one object each, told the figure, so that no call makes pins

    private static class Pin {
        boolean canBe(Dress on, int ring, int figure) {
            return true;
        }

        void work(Dress on, int ring, int figure) {
        }

        int cost(int figure) {
            return 1;
        }

        void fail(int figure) {
            if (figure > 0) {
                throw new IllegalStateException("a pin has failed");
            }
        }
    }

    private static class Taken extends Pin {
        boolean canBe(Dress on, int ring, int figure) {
            return on.get(ring, WIDTH) > figure;
        }

        void work(Dress on, int ring, int figure) {
            on.widen(ring, -figure);
            on.keepMore(ring, figure / 2);
        }

        int cost(int figure) {
            return super.cost(figure) + figure;
        }
    }

    private static class Let extends Pin {
        boolean canBe(Dress on, int ring, int figure) {
            return on.get(ring, KEPT) >= figure;
        }

        void work(Dress on, int ring, int figure) {
            on.widen(ring, figure);
            on.keepMore(ring, -figure);
        }

        int cost(int figure) {
            return super.cost(figure) + 2 * figure;
        }
    }

    private static final class Turned extends Taken {
        boolean canBe(Dress on, int ring, int figure) {
            return super.canBe(on, ring, figure) && on.has(ring + 1);
        }

        void work(Dress on, int ring, int figure) {
            super.work(on, ring, figure);
            on.widen(ring + 1, figure);
        }

        int cost(int figure) {
            return 3 * super.cost(figure);
        }

        void fail(int figure) {
            if (figure > 0) {
                throw new IllegalArgumentException("a turned dart has failed");
            }
        }
    }

    private static final class SetIn extends Let {
        boolean canBe(Dress on, int ring, int figure) {
            return true;
        }

        void work(Dress on, int ring, int figure) {
            on.widen(ring, 2 * figure);
        }

        int cost(int figure) {
            return super.cost(figure) + 9;
        }

        void fail(int figure) {
            if (figure > 0) {
                throw new UnsupportedOperationException("a piece set in has failed");
            }
        }
    }

    private static final class Undone extends Pin {
        boolean canBe(Dress on, int ring, int figure) {
            return on.holes > 0;
        }

        void work(Dress on, int ring, int figure) {
            on.pierce(-1);
        }

        int cost(int figure) {
            return super.cost(figure) - 1;
        }

        void fail(int figure) {
        }
    }

    private static final class Shown extends Let {
        void work(Dress on, int ring, int figure) {
            super.work(on, ring, figure);
            on.pierce(figure);
        }

        int cost(int figure) {
            return super.cost(figure) - figure;
        }
    }

    private static final class Last extends Taken {
        boolean canBe(Dress on, int ring, int figure) {
            return super.canBe(on, ring, figure) && !on.has(ring + 1);
        }

        void work(Dress on, int ring, int figure) {
            super.work(on, ring, figure);
            for (int above = 0; above < ring; above++) {
                on.widen(above, -1);
            }
        }

        int cost(int figure) {
            return super.cost(figure) + 4;
        }
    }

    // ---- what a shelf holds

    private static final class Shelf {
        private static final int NOTHING = 0;
        private static final int PIN = 1;
        private static final int ROW = 2;

        private final int[] cells = new int[MOST_ELEMENTS];
        private int held;
        private int kind;
        private int figure;
        private int sort;
        private int size;

        void holdNothing() {
            held = NOTHING;
        }

        void holdPin(int newKind, int newFigure) {
            held = PIN;
            kind = newKind;
            figure = newFigure;
        }

        void holdRow(int newSort, int newSize) {
            held = ROW;
            sort = newSort;
            size = Math.max(0, Math.min(newSize, cells.length));
            for (int i = 0; i < cells.length; i++) {
                cells[i] = 0;
            }
        }

        /** 0: a pin is held. */
        int pinRefusal() {
            return held == NOTHING ? NOTHING_HELD : held == PIN ? 0 : OTHER_KIND;
        }

        /** 0: a row is held. */
        int rowRefusal() {
            return held == NOTHING ? NOTHING_HELD : held == ROW ? 0 : OTHER_KIND;
        }

        /** Whether there are n places from i on. */
        boolean hasPlaces(int i, int n) {
            return i >= 0 && n >= 0 && n <= size && i <= size - n;
        }

        int at(int i) {
            return i >= 0 && i < size && i < cells.length ? cells[i] : 0;
        }

        void putAt(int i, int v) {
            if (i >= 0 && i < size && i < cells.length) {
                cells[i] = sort == BYTES ? (byte) v : sort == SHORTS ? (short) v : v;
            }
        }

        int leastNumber() {
            return sort == BYTES ? -128 : sort == SHORTS ? -32768 : -2147483648;
        }

        void takeFrom(Shelf from, int i, int j, int n) {
            if (from.hasPlaces(i, n) && hasPlaces(j, n)) {
                System.arraycopy(from.cells, i, cells, j, n);
            }
        }
    }

    // ---- a dress's text, read a statement at a time

    private static final class Text {
        private final int[] numbers = new int[SIZES_OF_RING];
        private int found;
        private int place;
        private int letter;

        /** What stands behind a letter: n one or two digits, d one digit, else the sign itself. */
        private static String formBehind(int letter) {
            switch (letter) {
                case 'r':
                    return "n n dd;";
                case 't':
                    return "d;";
                case 'l':
                    return "n;";
                case 'p':
                    return "ddd;";
                default:
                    return "";
            }
        }

        /** Reads the statement at the place; false: no text can go on with what is at the place then. */
        boolean readStatement(Shelf row) {
            found = 0;
            letter = row.at(place);
            String form = formBehind(letter);
            if (form.isEmpty()) {
                return false;
            }
            place++;
            for (int k = 0; k < form.length(); k++) {
                if (!readPart(row, form.charAt(k))) {
                    return false;
                }
            }
            return true;
        }

        private boolean readPart(Shelf row, char part) {
            if (part == 'n' || part == 'd') {
                return readNumber(row, part == 'n');
            }
            if (row.at(place) != part) {
                return false;
            }
            place++;
            return true;
        }

        private boolean readNumber(Shelf row, boolean twoDigits) {
            int v = digitHere(row);
            if (v < 0) {
                return false;
            }
            place++;
            int behind = digitHere(row);
            if (twoDigits && v > 0 && behind >= 0) {
                v = 10 * v + behind;
                place++;
            }
            if (found >= 0 && found < numbers.length) {
                numbers[found] = v;
                found++;
            }
            return true;
        }

        /** The digit at the place; -1: none is there. */
        private int digitHere(Shelf row) {
            int sign = row.at(place);
            return within(sign, '0', '9') ? sign - '0' : -1;
        }

        int number(int k) {
            return k >= 0 && k < found && k < numbers.length ? numbers[k] : 0;
        }
    }
}

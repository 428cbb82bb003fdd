import java.util.Arrays;
import java.util.function.IntUnaryOperator;

/** The boundary cases of promises 10 to 22, sentence by sentence: what would be best, hems to fittings. */
public final class EdgesOfAdviceTest {
    private static final int BYTES = 0;
    private static final int SHORTS = 1;
    private static final int INTS = 2;
    private static final int LEAST = Integer.MIN_VALUE;
    private static final int MOST = Integer.MAX_VALUE;
    private static final int FAR = -1000000001;

    private static final Due DUE = new Due();

    /** A call of the object that reads a ROW of PINS in SHELF d. */
    private interface OfPins {
        int of(PinnedToFit x, int d);
    }

    public static void main(String[] args) {
        bestPin();
        bestPinOfSeveral();
        least();
        leastOfSeveral();
        first();
        orders();
        rowsOfPins(11, "least", (x, d) -> x.least(d, 0), 0);
        rowsOfPins(12, "first", (x, d) -> x.first(d), -4);
        rowsOfPins(13, "orders", (x, d) -> x.orders(d, 0), -2);
        hem();
        darts();
        stripes();
        measures();
        measuresRefusals();
        sizes();
        sizesOneMore();
        sizesRefusals();
        old();
        oldRefusals();
        shape();
        seeded();
        seededRefusals();
        judge();
        judgeRefusals();
        DUE.end(10, 22);
    }

    private static void due(String call, long got, long want) {
        DUE.is(call, got, want);
    }

    private static PinnedToFit one(int width, int kept) {
        return Due.made("r50 " + width + " " + kept + "0;");
    }

    /** What is asked with a number that is no shelf. */
    private static void refusesNoShelf(String call, IntUnaryOperator on) {
        for (int d : new int[] {-1, 8, LEAST, MOST}) {
            due(call + " of shelf " + d, on.applyAsInt(d), -1);
        }
    }

    /** What is asked with shelves that hold nothing, a PIN, and ROWS that are of another SORT. */
    private static void refusesOthers(int promise, String call, int sort, IntUnaryOperator on, PinnedToFit x) {
        DUE.of(promise, "-11: nothing is held");
        x.keep(5, 0, 0, 0);
        due(call + " of nothing", on.applyAsInt(5), -11);
        DUE.of(promise, "-12 (no ROW of its SORT)");
        x.keep(5, 1, 0, 0);
        due(call + " of a PIN", on.applyAsInt(5), -12);
        for (int other = 0; other < 3; other++) {
            if (other != sort) {
                Due.row(x, 5, other, 0, 1, 0);
                due(call + " of a ROW of SORT " + other, on.applyAsInt(5), -12);
                x.row(5, other, 0);
                due(call + " of an empty ROW of SORT " + other, on.applyAsInt(5), -12);
            }
        }
    }

    private static void bestPin() {
        DUE.of(10, "with (sets 1) or without (0) PINS of KIND 4");
        PinnedToFit bare = one(50, 0);
        due("with SET", bare.bestPin(1, 0), 42);
        due("with SET: LACKS then", bare.bestPin(1, 1), 0);
        due("without SET", bare.bestPin(0, 0), -4);
        DUE.of(10, "LACKS as now, if there is none");
        due("without SET: as now", bare.bestPin(0, 1), 7);
        DUE.of(10, "if LACKS is less by it than now (-4 else)");
        due("nothing lacks", one(54, 9).bestPin(1, 0), -4);
        due("nothing lacks", one(54, 9).bestPin(1, 1), 0);
        PinnedToFit stuck = Due.made("t1;l0;r50 51 00;r50 51 00;");
        due("it lacks, and no PIN helps", stuck.bestPin(0, 0), -4);
        due("it lacks, and no PIN helps", stuck.bestPin(0, 1), stuck.lacks());
        PinnedToFit less = Due.made("r9 14 00;r50 59 00;");
        due("less by 1 is less", less.bestPin(0, 0), 111);
        due("less by 1 is less", less.bestPin(0, 1), 0);
        DUE.of(10, "no RINGS: -4, LACKS as now");
        for (int sets = 0; sets < 2; sets++) {
            due("no RINGS", new PinnedToFit().bestPin(sets, 0), -4);
            due("no RINGS", new PinnedToFit().bestPin(sets, 1), 0);
        }
        DUE.of(10, "-1: sets 0 or 1, what 0 or 1");
        for (int v : new int[] {-1, 2, LEAST, MOST}) {
            due("bestPin(" + v + ", 0)", bare.bestPin(v, 0), -1);
            due("bestPin(0, " + v + ")", bare.bestPin(0, v), -1);
        }
        DUE.of(10, "in mind (nothing stays)");
        PinnedToFit x = Due.made("t2;l3;r50 70 30;r50 40 90;r50 58 00;p611;");
        String before = Due.all(x);
        due("it lacks less then", x.bestPin(1, 1) < x.lacks() ? 1 : 0, 1);
        DUE.same("bestPin", Due.all(x), before);
    }

    /** A dress whose RING 0 is 99 wide, behind so many PINS that MINUTES are full. */
    private static PinnedToFit with9999Minutes(String text) {
        PinnedToFit x = Due.made(text);
        x.keep(0, 1, 4, 9);
        for (int k = 0; k < 358; k++) {
            x.pin(0, 0);
        }
        due("MINUTES", x.count(2), 9999);
        return x;
    }

    private static void bestPinOfSeveral() {
        DUE.of(10, "of all PINS that MAY be at a RING");
        due("KEPT 2 lets out 2 alone", one(50, 2).bestPin(0, 0), 62);
        due("KEPT 3", one(50, 3).bestPin(0, 0), 63);
        due("WIDTH above FIGURE", Due.made("t0;l0;r1 9 00;").bestPin(0, 0), 16);
        DUE.of(10, "FIGURES 0 .. 9");
        due("the greatest FIGURE", one(99, 0).bestPin(0, 0), 19);
        due("the greatest FIGURE: LACKS then", one(99, 0).bestPin(0, 1), 32);
        due("the least FIGURE but 0", one(59, 0).bestPin(0, 0), 11);
        DUE.of(10, "of several that of least MINUTES");
        due("TAKEN 3 to 5 fit", one(61, 0).bestPin(1, 0), 13);
        due("SHOWN 3 has less MINUTES than LET 3", one(50, 9).bestPin(1, 0), 63);
        DUE.of(10, "MINUTES of the PIN, though no more go to MINUTES than 9999");
        PinnedToFit late = with9999Minutes("l30;r90 99 00;r50 50 90;");
        due("SHOWN 1 has less MINUTES than LET 1", late.bestPin(0, 0), 161);
        due("SHOWN 1: LACKS then", late.bestPin(0, 1), 0);
        DUE.of(10, "then the first by RINGS, KINDS, FIGURES");
        due("RING 1 ahead of RING 2", Due.made("r9 14 00;r50 61 00;r50 61 00;r9 14 00;").bestPin(0, 0), 113);
        due("KIND 1, though KIND 3 does it too", Due.made("r9 18 00;r9 11 00;").bestPin(0, 0), 11);
        DUE.of(10, "as 100 times the RING, 10 times KIND, and FIGURE");
        String loose = "r50 58 00;r50 59 00;";
        PinnedToFit last = Due.made("l7;t0;" + loose + loose + "r50 59 00;r50 66 00;");
        due("LAST 9 at RING 5", last.bestPin(1, 0), 579);
        due("LAST 9 at RING 5: LACKS then", last.bestPin(1, 1), last.lacks() - 14);
        due("TURNED 3 makes up for both", Due.made("t0;r50 61 00;r50 47 00;").bestPin(0, 0), 33);
        due("SET 9 at RING 0", Due.made("t9;r99 1 00;").bestPin(1, 0), 49);
    }

    private static void least() {
        PinnedToFit x = one(61, 0);
        DUE.of(11, "no PINS at all: the empty set, LACKS as now");
        x.row(0, BYTES, 0);
        due("no PINS", x.least(0, 0), 0);
        due("no PINS", x.least(0, 1), 3);
        due("no PINS, no RINGS", leastOfEmptyWithoutRings(), 0);
        DUE.of(11, "6 PINS at most: the set of all six");
        PinnedToFit wide = one(99, 0);
        Due.row(wide, 0, BYTES, 1, 9, 0, 1, 9, 0, 1, 9, 0, 1, 9, 0, 1, 5, 0, 0, 0, 0);
        due("five are best", wide.least(0, 0), 31);
        Due.row(wide, 0, BYTES, 1, 9, 0, 1, 9, 0, 1, 9, 0, 1, 8, 0, 1, 5, 0, 1, 1, 0);
        due("all six", wide.least(0, 0), 63);
        due("all six: LACKS then", wide.least(0, 1), 0);
        DUE.of(11, "in which each MAY be by then");
        Due.row(x, 0, BYTES, 5, 0, 0, 1, 3, 0);
        due("UNDONE without HOLES is left", x.least(0, 0), 2);
        Due.row(x, 0, BYTES, 2, 9, 0);
        due("LET 9 without KEPT", x.least(0, 0), 0);
        due("LET 9 without KEPT", x.least(0, 1), 3);
        DUE.of(11, "put in its order");
        PinnedToFit low = Due.made("t5;l7;r50 54 00;");
        Due.row(low, 0, BYTES, 1, 2, 0, 4, 2, 0, 2, 1, 0);
        due("LET behind the TAKEN that it needs", low.least(0, 0), 7);
        due("WIDTH 57", low.least(0, 1), 0);
        Due.row(low, 0, BYTES, 2, 1, 0, 1, 2, 0, 4, 2, 0);
        due("LET ahead of the TAKEN that it needs: SET alone", low.least(0, 0), 4);
        due("WIDTH 58", low.least(0, 1), 1);
        DUE.of(11, "-1: what 0 or 1");
        for (int what : new int[] {-1, 2, LEAST, MOST}) {
            due("least(0, " + what + ")", x.least(0, what), -1);
            due("least(7, " + what + ") of nothing", x.least(7, what), -1);
        }
        DUE.of(11, "in mind (nothing stays), and the ROW stays");
        Due.row(x, 0, BYTES, 1, 3, 0, 4, 1, 0);
        String before = Due.all(x);
        due("TAKEN 3", x.least(0, 0), 1);
        DUE.same("least", Due.all(x), before);
    }

    private static int leastOfEmptyWithoutRings() {
        PinnedToFit x = new PinnedToFit();
        x.row(0, BYTES, 0);
        return x.least(0, 0);
    }

    private static void leastOfSeveral() {
        PinnedToFit x = one(61, 0);
        DUE.of(11, "of several that whose PINS have the least MINUTES together");
        Due.row(x, 0, BYTES, 1, 5, 0, 1, 4, 0, 1, 3, 0);
        due("the third", x.least(0, 0), 4);
        Due.row(x, 0, BYTES, 1, 3, 0, 1, 4, 0, 1, 5, 0);
        due("the first", x.least(0, 0), 1);
        Due.row(x, 0, BYTES, 1, 1, 0, 1, 2, 0, 1, 3, 0);
        due("3 at once has less than 1 and 2", x.least(0, 0), 4);
        DUE.of(11, "MINUTES of the PINS, though no more go to MINUTES than 9999");
        PinnedToFit late = with9999Minutes("l30;r66 99 00;");
        Due.row(late, 0, BYTES, 1, 5, 0, 1, 3, 0, 0, 9, 0);
        due("3 above LOOSE: TAKEN 3", late.least(0, 0), 2);
        due("TAKEN 3: LACKS then", late.least(0, 1), 0);
        DUE.of(11, "then the least as bits");
        Due.row(x, 0, BYTES, 1, 3, 0, 1, 3, 0);
        due("two that are alike", x.least(0, 0), 1);
        PinnedToFit holed = Due.made("r50 54 90;p610;t0;l30;");
        Due.row(holed, 0, BYTES, 5, 0, 0);
        due("UNDONE takes no MINUTES: none is the least", holed.least(0, 0), 0);
        Due.row(x, 0, BYTES, 1, 1, 0, 1, 2, 0, 1, 2, 0);
        due("1 and 2: the first and the second", x.least(0, 0), 3);
        DUE.of(11, "that with the least LACKS behind it");
        Due.row(x, 0, BYTES, 0, 0, 0, 1, 2, 0);
        due("not those without it", x.least(0, 0), 2);
        due("LACKS then", x.least(0, 1), 1);
    }

    private static void first() {
        PinnedToFit x = Due.made("r50 9 30;r50 54 00;");
        DUE.of(12, "its place (0 ..): the first, the last of six");
        Due.row(x, 0, BYTES, 5, 0, 0, 0, 0, 0);
        due("the first", x.first(0), 0);
        Due.row(x, 0, BYTES, 0, 0, 0, 0, 0, 0, 0, 0, 0, 0, 0, 0, 0, 0, 0, 5, 0, 0);
        due("the sixth", x.first(0), 5);
        DUE.of(12, "if all ahead were put");
        Due.row(x, 0, BYTES, 2, 2, 0, 2, 1, 0, 2, 1, 0);
        due("KEPT is used by then", x.first(0), 2);
        Due.row(x, 0, BYTES, 6, 1, 0, 5, 0, 1, 5, 0, 1);
        due("the HOLE is gone by then", x.first(0), 2);
        Due.row(x, 0, BYTES, 1, 8, 0, 1, 1, 0);
        due("WIDTH is 1 by then", x.first(0), 1);
        DUE.of(12, "-4: none");
        Due.row(x, 0, BYTES, 6, 1, 0, 5, 0, 1);
        due("all MAY be", x.first(0), -4);
        x.row(0, BYTES, 0);
        due("no PINS", x.first(0), -4);
        DUE.of(12, "in mind (nothing stays), and the ROW stays");
        Due.row(x, 0, BYTES, 2, 3, 0, 1, 3, 1);
        String before = Due.all(x);
        due("first", x.first(0), -4);
        DUE.same("first", Due.all(x), before);
    }

    private static void orders() {
        PinnedToFit x = Due.made("r50 54 00;r50 52 20;");
        DUE.of(13, "5 PINS at most, else -2");
        for (int pins = 0; pins < 7; pins++) {
            x.row(0, BYTES, 3 * pins);
            int[] want = {1, 1, 2, 6, 24, 120, -2};
            due(pins + " PINS", x.orders(0, 0), want[pins]);
            due(pins + " PINS: LACKS", x.orders(0, 1), pins == 6 ? -2 : x.lacks());
        }
        DUE.of(13, "of the ROW, then -2");
        x.put(0, 17, 2);
        due("six PINS, one at no RING", x.orders(0, 0), -13);
        x.row(0, BYTES, 21);
        due("seven PINS", x.orders(0, 0), -13);
        DUE.of(13, "-1: what 0 or 1");
        for (int what : new int[] {-1, 2, LEAST, MOST}) {
            due("orders(0, " + what + ")", x.orders(0, what), -1);
            due("orders(7, " + what + ") of nothing", x.orders(7, what), -1);
        }
        DUE.of(13, "-4 there is none");
        Due.row(x, 0, BYTES, 5, 0, 0, 0, 0, 0);
        due("how many", x.orders(0, 0), 0);
        due("LACKS", x.orders(0, 1), -4);
        DUE.of(13, "all of a ROW MAY be put, one behind the other");
        Due.row(x, 0, BYTES, 5, 0, 0, 0, 0, 0, 6, 1, 1);
        due("UNDONE behind SHOWN", x.orders(0, 0), 3);
        Due.row(x, 0, BYTES, 5, 0, 0, 5, 0, 0, 6, 1, 1, 6, 1, 1, 0, 0, 0);
        due("as many UNDONE as SHOWN behind any", x.orders(0, 0), 5 * 2 * 4);
        Due.row(x, 0, BYTES, 2, 1, 1, 2, 1, 1, 2, 1, 1);
        due("KEPT is enough for two", x.orders(0, 0), 0);
        DUE.of(13, "the least LACKS behind any of these");
        PinnedToFit wide = one(95, 9);
        Due.row(wide, 0, BYTES, 1, 9, 0, 2, 9, 0);
        due("LET, then TAKEN: 99 less 9", wide.orders(0, 1), 90 - 50 - 8);
        Due.row(wide, 0, BYTES, 2, 9, 0, 1, 9, 0);
        due("by places the other way", wide.orders(0, 1), 90 - 50 - 8);
        Due.row(wide, 0, BYTES, 1, 9, 0);
        due("one PIN that lacks more than none", wide.orders(0, 1), 86 - 50 - 8);
        PinnedToFit fits = one(54, 0);
        Due.row(fits, 0, BYTES, 1, 9, 0);
        due("more than now", fits.orders(0, 1), 7 + 4 * 5);
        DUE.of(13, "in mind (nothing stays), and the ROW stays");
        String before = Due.all(wide);
        wide.orders(0, 0);
        DUE.same("orders", Due.all(wide), before);
    }

    /** What each call with a ROW of PINS refuses; sixPins is its answer with six that do nothing. */
    private static void rowsOfPins(int promise, String call, OfPins on, int sixPins) {
        PinnedToFit x = Due.made("r50 54 00;r50 54 00;");
        DUE.of(promise, "-1: no such SHELF");
        refusesNoShelf(call, d -> on.of(x, d));
        refusesOthers(promise, call, BYTES, d -> on.of(x, d), x);
        DUE.of(promise, "a ROW of PINS by threes");
        for (int size : new int[] {1, 2, 4, 5, 7, 16, 17, 19}) {
            x.row(0, BYTES, size);
            due(size + " bytes", on.of(x, 0), -13);
        }
        DUE.of(promise, "6 PINS at most");
        for (int size : new int[] {21, 24, 99, 100}) {
            x.row(0, BYTES, size);
            due(size + " bytes", on.of(x, 0), -13);
        }
        x.row(0, BYTES, 18);
        due("18 bytes", on.of(x, 0), sixPins);
        DUE.of(promise, "KIND 0 .. 7, FIGURE 0 .. 9, a RING that is there");
        int[] most = {7, 9, 1};
        for (int part = 0; part < 3; part++) {
            for (int wrong : new int[] {-1, most[part] + 1, -128, 127}) {
                Due.row(x, 0, BYTES, 0, 0, 0, 0, 0, 0);
                x.put(0, part, wrong);
                due("part " + part + " of the first is " + wrong, on.of(x, 0), -13);
                x.put(0, part, 0);
                x.put(0, 3 + part, wrong);
                due("part " + part + " of the last is " + wrong, on.of(x, 0), -13);
            }
        }
        Due.row(x, 0, BYTES, 7, 9, 1);
        due("the most of each", on.of(x, 0) >= -4 ? 1 : 0, 1);
        Due.row(x, 0, BYTES, 5, 0, 0, 0, 0, 2);
        due("not as told behind one that MAY not be", on.of(x, 0), -13);
        DUE.of(promise, "a RING that is not there, too");
        PinnedToFit none = new PinnedToFit();
        none.row(0, BYTES, 3);
        due("no RINGS", on.of(none, 0), -13);
        none.row(0, BYTES, 0);
        due("no RINGS, no PINS", on.of(none, 0), call.equals("orders") ? 1 : call.equals("first") ? -4 : 0);
        DUE.of(promise, "a refused call changes nothing");
        String before = Due.all(x);
        on.of(x, 0);
        on.of(x, 5);
        on.of(x, 8);
        DUE.same(call, Due.all(x), before);
    }

    private static void hem() {
        PinnedToFit x = new PinnedToFit();
        DUE.of(14, "a length n (1 .. 99)");
        due("hem(0, 1, 1)", x.hem(0, 1, 1), -1);
        due("hem(1, 1, 1)", x.hem(1, 1, 1), 1);
        due("hem(99, 0, 1)", x.hem(99, 0, 1), 99);
        due("hem(100, 1, 1)", x.hem(100, 1, 1), -1);
        DUE.of(14, "a slant b (0 .. 99)");
        due("hem(50, -1, 1)", x.hem(50, -1, 1), -1);
        due("hem(50, 0, 20)", x.hem(50, 0, 20), 50);
        due("hem(50, 99, 1)", x.hem(50, 99, 1), 99);
        due("hem(50, 100, 1)", x.hem(50, 100, 1), -1);
        DUE.of(14, "d days (0 .. 20)");
        due("hem(50, 1, -1)", x.hem(50, 1, -1), -1);
        due("hem(50, 99, 0)", x.hem(50, 99, 0), 50);
        due("hem(10, 10, 20): 20 on day 10, 30 on day 15, 33, 36, 39, 42, 46", x.hem(10, 10, 20), 46);
        due("hem(50, 1, 21)", x.hem(50, 1, 21), -1);
        for (int v : new int[] {LEAST, MOST}) {
            due("hem(" + v + ", 1, 1)", x.hem(v, 1, 1), -1);
            due("hem(1, " + v + ", 1)", x.hem(1, v, 1), -1);
            due("hem(1, 1, " + v + ")", x.hem(1, 1, v), -1);
        }
        DUE.of(14, "more by b times what it is by 100, cut");
        due("hem(1, 99, 20): 99 by 100 is 0", x.hem(1, 99, 20), 1);
        due("hem(2, 50, 1): 100 by 100 is 1", x.hem(2, 50, 1), 3);
        due("hem(3, 33, 1): 99 by 100 is 0", x.hem(3, 33, 1), 3);
        due("hem(2, 99, 1): 198 by 100 is 1", x.hem(2, 99, 1), 3);
        due("hem(2, 50, 3): 3, 4, 6", x.hem(2, 50, 3), 6);
        DUE.of(14, "99 at most");
        due("hem(50, 98, 1)", x.hem(50, 98, 1), 99);
        due("hem(51, 98, 1)", x.hem(51, 98, 1), 99);
        due("hem(50, 96, 1)", x.hem(50, 96, 1), 98);
        due("hem(99, 99, 20)", x.hem(99, 99, 20), 99);
    }

    private static void darts() {
        PinnedToFit x = new PinnedToFit();
        DUE.of(15, "widths a, c (0 .. 99)");
        due("darts(0, 1, 0, 99)", x.darts(0, 1, 0, 99), 1);
        due("darts(0, 1, 1, 1)", x.darts(0, 1, 1, 1), 0);
        due("darts(1, 1, 0, 1)", x.darts(1, 1, 0, 1), 0);
        due("darts(99, 99, 1, 1)", x.darts(99, 99, 1, 1), 1);
        due("darts(1, 1, 99, 99)", x.darts(1, 1, 99, 99), 1);
        for (int wrong : new int[] {-1, 100, LEAST, MOST}) {
            due("darts(" + wrong + ", 1, 1, 1)", x.darts(wrong, 1, 1, 1), -1);
            due("darts(1, 1, " + wrong + ", 1)", x.darts(1, 1, wrong, 1), -1);
        }
        DUE.of(15, "lengths b, d (1 .. 99)");
        due("darts(0, 99, 0, 1)", x.darts(0, 99, 0, 1), 1);
        due("darts(5, 99, 5, 99)", x.darts(5, 99, 5, 99), 1);
        for (int wrong : new int[] {0, -1, 100, LEAST, MOST}) {
            due("darts(0, " + wrong + ", 0, 1)", x.darts(0, wrong, 0, 1), -1);
            due("darts(0, 1, 0, " + wrong + ")", x.darts(0, 1, 0, wrong), -1);
        }
        DUE.of(15, "ONE, if a times d is c times b");
        due("darts(2, 3, 4, 6)", x.darts(2, 3, 4, 6), 1);
        due("darts(2, 3, 4, 5)", x.darts(2, 3, 4, 5), 0);
        due("darts(3, 2, 2, 3)", x.darts(3, 2, 2, 3), 0);
        due("darts(98, 99, 99, 98)", x.darts(98, 99, 99, 98), 0);
        due("darts(98, 99, 97, 98)", x.darts(98, 99, 97, 98), 0);
    }

    private static void stripes() {
        PinnedToFit x = new PinnedToFit();
        DUE.of(16, "m, n 1 .. 60");
        due("stripes(0, 0, 1, 0)", x.stripes(0, 0, 1, 0), -1);
        due("stripes(1, 0, 0, 0)", x.stripes(1, 0, 0, 0), -1);
        due("stripes(1, 0, 1, 0)", x.stripes(1, 0, 1, 0), 0);
        due("stripes(60, 59, 60, 59)", x.stripes(60, 59, 60, 59), 59);
        due("stripes(61, 0, 1, 0)", x.stripes(61, 0, 1, 0), -1);
        due("stripes(1, 0, 61, 0)", x.stripes(1, 0, 61, 0), -1);
        DUE.of(16, "i 0 .. m less 1");
        due("stripes(4, -1, 6, 0)", x.stripes(4, -1, 6, 0), -1);
        due("stripes(4, 0, 6, 0)", x.stripes(4, 0, 6, 0), 0);
        due("stripes(4, 3, 6, 1)", x.stripes(4, 3, 6, 1), 7);
        due("stripes(4, 4, 6, 0)", x.stripes(4, 4, 6, 0), -1);
        DUE.of(16, "j 0 .. n less 1");
        due("stripes(4, 0, 6, -1)", x.stripes(4, 0, 6, -1), -1);
        due("stripes(4, 1, 6, 5)", x.stripes(4, 1, 6, 5), 5);
        due("stripes(4, 0, 6, 6)", x.stripes(4, 0, 6, 6), -1);
        for (int v : new int[] {LEAST, MOST}) {
            due("stripes(" + v + ", 0, 1, 0)", x.stripes(v, 0, 1, 0), -1);
            due("stripes(1, " + v + ", 1, 0)", x.stripes(1, v, 1, 0), -1);
            due("stripes(1, 0, " + v + ", 0)", x.stripes(1, 0, v, 0), -1);
            due("stripes(1, 0, 1, " + v + ")", x.stripes(1, 0, 1, v), -1);
        }
        due("stripes(" + LEAST + ", " + MOST + ", 1, 0)", x.stripes(LEAST, MOST, 1, 0), -1);
        DUE.of(16, "the least place (0 .. m times n less 1)");
        due("the first place", x.stripes(60, 0, 59, 0), 0);
        due("the last place", x.stripes(60, 59, 59, 58), 60 * 59 - 1);
        due("the last place of 1 by 60", x.stripes(1, 0, 60, 59), 59);
        due("the last place of 60 by 1", x.stripes(60, 59, 1, 0), 59);
        due("9, and not 21", x.stripes(4, 1, 6, 3), 9);
        DUE.of(16, "-4: no such place");
        due("stripes(4, 1, 6, 2)", x.stripes(4, 1, 6, 2), -4);
        due("stripes(60, 59, 60, 58)", x.stripes(60, 59, 60, 58), -4);
        due("stripes(2, 0, 2, 1)", x.stripes(2, 0, 2, 1), -4);
    }

    private static void measures() {
        PinnedToFit x = Due.made("r30 1 00;r20 1 00;r50 1 00;");
        DUE.of(17, "no measures: -4");
        x.row(0, SHORTS, 0);
        due("no measures", x.measures(0, 0), -4);
        due("no measures", x.measures(0, 1), -4);
        DUE.of(17, "-4: all are so");
        Due.row(x, 0, SHORTS, 0, 1, 10, 2, 0, 20, 1, 2, -30);
        due("the place", x.measures(0, 0), -4);
        due("WRONG", x.measures(0, 1), -4);
        DUE.of(17, "the place (of its first element) of the first that isn't so");
        Due.row(x, 0, SHORTS, 0, 1, 11, 2, 0, 19);
        due("the first", x.measures(0, 0), 0);
        Due.row(x, 0, SHORTS, 0, 1, 10, 2, 0, 19, 1, 2, 0);
        due("the second", x.measures(0, 0), 3);
        Due.row(x, 0, SHORTS, 1, 0, 10);
        due("the other way round", x.measures(0, 0), 0);
        DUE.of(17, "33 of them, as 100 elements have room for");
        x.row(0, SHORTS, 99);
        for (int k = 0; k < 99; k += 3) {
            x.put(0, k + 1, 1);
            x.put(0, k + 2, 10);
        }
        due("all are so", x.measures(0, 0), -4);
        x.put(0, 98, 9);
        due("the last isn't", x.measures(0, 0), 96);
        due("the last isn't: WRONG", x.measures(0, 1), 0);
        DUE.of(17, "by how much: the least and the greatest");
        PinnedToFit far = Due.made("r99 1 00;r1 1 00;");
        Due.row(far, 0, SHORTS, 0, 1, 98, 1, 0, -98);
        due("98 and -98", far.measures(0, 0), -4);
        Due.row(far, 0, SHORTS, 0, 1, 32767);
        due("the greatest short", far.measures(0, 0), 0);
        Due.row(far, 0, SHORTS, 1, 0, -32768);
        due("the least short", far.measures(0, 0), 0);
        DUE.of(17, "WRONG: the RING that is in most of those that aren't so");
        Due.row(x, 0, SHORTS, 0, 1, 9, 1, 2, 0, 0, 2, -20);
        due("RING 1 is in both", x.measures(0, 1), 1);
        Due.row(x, 0, SHORTS, 0, 1, 10, 0, 1, 10, 0, 1, 10, 2, 1, 0);
        due("those that are so do not count", x.measures(0, 1), 1);
        DUE.of(17, "of several the least");
        Due.row(x, 0, SHORTS, 2, 1, 0);
        due("RING 1 ahead of 2", x.measures(0, 1), 1);
        Due.row(x, 0, SHORTS, 2, 1, 0, 1, 0, 0, 0, 2, 0);
        due("all twice", x.measures(0, 1), 0);
        PinnedToFit six = Due.made("r1 1 00;r1 1 00;r1 1 00;r1 1 00;r1 1 00;r1 1 00;");
        Due.row(six, 0, SHORTS, 5, 4, 1, 3, 5, 1);
        due("RING 5 is in both", six.measures(0, 1), 5);
    }

    private static void measuresRefusals() {
        PinnedToFit x = Due.made("r30 1 00;r20 1 00;r50 1 00;");
        DUE.of(17, "-1: no such SHELF");
        refusesNoShelf("measures", d -> x.measures(d, 0));
        DUE.of(17, "-1: what 0 or 1");
        for (int what : new int[] {-1, 2, LEAST, MOST}) {
            due("measures(0, " + what + ")", x.measures(0, what), -1);
            due("measures(7, " + what + ") of a ROW of bytes", x.measures(7, what), -1);
        }
        refusesOthers(17, "measures", SHORTS, d -> x.measures(d, 0), x);
        DUE.of(17, "of several refusals the first: -12, -13");
        Due.row(x, 5, BYTES, 0, 0);
        due("two bytes", x.measures(5, 0), -12);
        DUE.of(17, "-13: by threes");
        for (int size : new int[] {1, 2, 4, 5, 98, 100}) {
            x.row(0, SHORTS, size);
            for (int k = 0; k + 1 < size; k += 3) {
                x.put(0, k + 1, 1);
                x.put(0, k + 2, 10);
            }
            due(size + " shorts", x.measures(0, 0), -13);
        }
        DUE.of(17, "-13: two unlike RINGS");
        Due.row(x, 0, SHORTS, 1, 1, 0);
        due("RINGS 1 and 1", x.measures(0, 0), -13);
        Due.row(x, 0, SHORTS, 0, 1, 0, 2, 2, 0);
        due("RINGS 2 and 2 behind a wrong one", x.measures(0, 0), -13);
        DUE.of(17, "-13: no such RING");
        int[][] wrong = {{-1, 0}, {0, -1}, {3, 0}, {0, 3}, {-32768, 0}, {0, 32767}};
        for (int[] w : wrong) {
            Due.row(x, 0, SHORTS, w[0], w[1], 0);
            due("RINGS " + w[0] + " and " + w[1], x.measures(0, 0), -13);
            Due.row(x, 0, SHORTS, 0, 1, 10, w[0], w[1], 0);
            due("RINGS " + w[0] + " and " + w[1] + ", WRONG", x.measures(0, 1), -13);
        }
        PinnedToFit none = new PinnedToFit();
        Due.row(none, 0, SHORTS, 0, 1, 0);
        due("no RINGS", none.measures(0, 0), -13);
    }

    private static void sizes() {
        PinnedToFit x = new PinnedToFit();
        Due.row(x, 0, BYTES, 40, 30, 50);
        DUE.of(18, "GIRTH and TIGHT or more");
        Due.row(x, 1, BYTES, 49);
        due("as much", x.sizes(0, 1, 0), 0);
        due("as much: SPARE", x.sizes(0, 1, 1), 0);
        Due.row(x, 1, BYTES, 50);
        due("one less", x.sizes(0, 1, 0), 1);
        x.line(0, 0);
        due("TIGHT 0", x.sizes(0, 1, 0), 0);
        x.line(0, 9);
        Due.row(x, 1, BYTES, 41, 42);
        due("TIGHT 9", x.sizes(0, 1, 0), 1);
        DUE.of(18, "each takes the least size");
        x.line(0, 1);
        Due.row(x, 1, BYTES, 29, 30, 38, 39, 9);
        due("SPARE", x.sizes(0, 1, 1), 0 + 9 + 1 + 0 + 20);
        due("how many have none", x.sizes(0, 1, 0), 0);
        DUE.of(18, "how many have none: all of them");
        Due.row(x, 1, BYTES, 50, 99, 51);
        due("all", x.sizes(0, 1, 0), 3);
        DUE.of(18, "SPARE: of all others, 0 if there are none");
        due("none is left", x.sizes(0, 1, 1), 0);
        Due.row(x, 1, BYTES, 99, 28);
        due("one is left", x.sizes(0, 1, 1), 1);
        DUE.of(18, "sizes of 1 and 99, GIRTHS of 1 and 99");
        x.line(0, 0);
        Due.row(x, 2, BYTES, 1, 99);
        Due.row(x, 3, BYTES, 1, 2, 99);
        due("how many have none", x.sizes(2, 3, 0), 0);
        due("SPARE", x.sizes(2, 3, 1), 97);
        Due.row(x, 2, BYTES, 2);
        Due.row(x, 3, BYTES, 1);
        due("2 for 1: how many have none", x.sizes(2, 3, 0), 0);
        due("2 for 1: SPARE", x.sizes(2, 3, 1), 1);
        DUE.of(18, "the same SHELF for both");
        Due.row(x, 2, BYTES, 1, 99);
        due("sizes(2, 2, 1)", x.sizes(2, 2, 1), 0);
        x.line(0, 1);
        due("sizes(2, 2, 0)", x.sizes(2, 2, 0), 1);
        DUE.of(18, "it changes nothing, and the ROWS stay");
        String before = Due.all(x);
        x.sizes(2, 3, 2);
        x.sizes(0, 1, 1);
        DUE.same("sizes", Due.all(x), before);
    }

    /** ONE MORE of these sizes for these girls. */
    private static int oneMore(int tight, int[] sizes, int... girls) {
        PinnedToFit x = new PinnedToFit();
        x.line(0, tight);
        Due.row(x, 0, BYTES, sizes);
        Due.row(x, 1, BYTES, girls);
        return x.sizes(0, 1, 2);
    }

    private static void sizesOneMore() {
        DUE.of(18, "ONE MORE: the size (1 .. 99)");
        due("the least", oneMore(0, new int[] {2}, 1), 1);
        due("the greatest", oneMore(0, new int[] {1}, 99), 99);
        due("the greatest with TIGHT 9", oneMore(9, new int[] {1}, 90), 99);
        due("none would do", oneMore(9, new int[] {1}, 91), 1);
        DUE.of(18, "by which, if there were it, too, fewest have none");
        due("for both", oneMore(1, new int[] {30}, 50, 60), 61);
        due("more SPARE, but fewer have none", oneMore(1, new int[] {30}, 40, 98), 99);
        due("the one that can be had", oneMore(1, new int[] {30}, 50, 99), 51);
        DUE.of(18, "of several that with the least SPARE");
        due("30 takes 15 from one", oneMore(0, new int[] {45}, 44, 30, 28), 30);
        due("32 takes 13 from three", oneMore(0, new int[] {45}, 44, 32, 28, 28), 32);
        due("the size that they need, and no more", oneMore(0, new int[] {10}, 20, 20), 20);
        DUE.of(18, "then the least");
        due("nothing to spare: any, so 1", oneMore(0, new int[] {40, 30}, 30, 40), 1);
        due("all have none, whatever it is", oneMore(1, new int[] {30}, 99), 1);
        due("25 and 21 spare as much", oneMore(0, new int[] {40, 30}, 25, 25, 20), 25);
        due("as much by 10 as by 20", oneMore(0, new int[] {30}, 20, 10), 10);
        DUE.of(18, "ONE MORE beside six sizes, for 20 girls");
        int[] girls = new int[20];
        Arrays.fill(girls, 70);
        due("the seventh size", oneMore(1, new int[] {1, 2, 3, 4, 5, 6}, girls), 71);
    }

    private static void sizesRefusals() {
        PinnedToFit x = new PinnedToFit();
        Due.row(x, 0, BYTES, 40);
        Due.row(x, 1, BYTES, 30);
        DUE.of(18, "-1: no such SHELF, of both");
        refusesNoShelf("sizes, d", d -> x.sizes(d, 1, 0));
        refusesNoShelf("sizes, e", e -> x.sizes(0, e, 0));
        DUE.of(18, "-1: what 0 .. 2");
        for (int what : new int[] {-1, 3, LEAST, MOST}) {
            due("sizes(0, 1, " + what + ")", x.sizes(0, 1, what), -1);
        }
        refusesOthers(18, "sizes, d", BYTES, d -> x.sizes(d, 1, 0), x);
        refusesOthers(18, "sizes, e", BYTES, e -> x.sizes(0, e, 0), x);
        DUE.of(18, "sizes (1 .. 6)");
        int[] sevens = {7, 7, 7, 7, 7, 7, 7};
        lengthsTold(x, 6, "sizes", () -> x.sizes(4, 1, 0));
        DUE.of(18, "girls (1 .. 20)");
        lengthsTold(x, 20, "girls", () -> x.sizes(0, 4, 0));
        DUE.of(18, "-1, then of d, then of e");
        Due.row(x, 2, BYTES, sevens);
        x.keep(3, 1, 0, 0);
        x.row(4, BYTES, 0);
        due("e is no SHELF, d holds nothing", x.sizes(6, 8, 0), -1);
        due("what is 3, d holds nothing", x.sizes(6, 1, 3), -1);
        due("d holds nothing, e a PIN", x.sizes(6, 3, 0), -11);
        due("d a PIN, e nothing", x.sizes(3, 6, 0), -12);
        due("d seven sizes, e nothing", x.sizes(2, 6, 0), -13);
        due("d seven sizes, e a PIN", x.sizes(2, 3, 0), -13);
        due("d holds nothing, e no girls", x.sizes(6, 4, 0), -11);
        due("d no sizes, e no girls", x.sizes(4, 4, 0), -13);
        due("e a PIN", x.sizes(0, 3, 0), -12);
        due("e no girls", x.sizes(0, 4, 0), -13);
        due("e seven girls", x.sizes(0, 2, 0), 0);
    }

    /** A call that wants 1 .. most lengths, each 1 .. 99, in SHELF 4. */
    private static void lengthsTold(PinnedToFit x, int most, String what, java.util.function.IntSupplier call) {
        int[] lengths = new int[most];
        Arrays.fill(lengths, 9);
        x.row(4, BYTES, 0);
        due("no " + what, call.getAsInt(), -13);
        Due.row(x, 4, BYTES, 9);
        due("one of " + what, call.getAsInt() >= 0 ? 1 : 0, 1);
        Due.row(x, 4, BYTES, lengths);
        due(most + " of " + what, call.getAsInt() >= 0 ? 1 : 0, 1);
        Due.row(x, 4, BYTES, Arrays.copyOf(lengths, most + 1));
        x.put(4, most, 9);
        due("one too many of " + what, call.getAsInt(), -13);
        for (int v : new int[] {1, 99}) {
            Due.row(x, 4, BYTES, 9, v);
            due(v + " in " + what, call.getAsInt() >= 0 ? 1 : 0, 1);
        }
        for (int v : new int[] {0, 100, -1, 127, -128}) {
            Due.row(x, 4, BYTES, v);
            due(v + " in " + what, call.getAsInt(), -13);
            Due.row(x, 4, BYTES, 9, v);
            due(v + " as the last of " + what, call.getAsInt(), -13);
        }
    }

    /** OLD of these WIDTHS. */
    private static int had(PinnedToFit x, int... widths) {
        Due.row(x, 0, BYTES, widths);
        return x.old(0);
    }

    private static void old() {
        PinnedToFit x = Due.made("r1 40 50;r1 30 00;r1 30 90;");
        DUE.of(19, "WIDTH and KEPT together are as much or more");
        due("as much", had(x, 45), 1);
        due("one more than there is", had(x, 46), 0);
        due("99 out of 90 and 9", had(Due.made("r1 90 90;"), 99), 1);
        due("99 out of 89 and 9", had(Due.made("r1 89 90;"), 99), 0);
        due("99 out of 99 and 9", had(Due.made("r1 99 90;"), 99), 1);
        due("1 out of 1 and 0", had(Due.made("r1 1 00;"), 1), 1);
        DUE.of(19, "each out of another RING");
        due("twice out of one", had(x, 45, 45), 1);
        due("thrice out of two", had(x, 39, 39, 39), 2);
        due("four out of three", had(x, 1, 1, 1, 1), 3);
        due("six out of six", had(Due.made("r1 9 00;r1 8 00;r1 7 00;r1 6 00;r1 5 00;r1 4 00;"), 4, 5, 6, 7, 8, 9), 6);
        due("six out of one", had(Due.made("r1 9 00;"), 4, 5, 6, 7, 8, 9), 1);
        DUE.of(19, "how many of them, at most");
        due("the wide ones last", had(x, 30, 39, 45), 3);
        due("the wide ones first", had(x, 45, 39, 30), 3);
        due("one that can't be had ahead", had(x, 99, 30, 30, 30), 3);
        due("one that can't be had behind", had(x, 30, 30, 30, 99), 3);
        due("none at all", had(x, 99, 99, 99, 99, 99, 99), 0);
        DUE.of(19, "no RINGS: none");
        due("no RINGS", had(new PinnedToFit(), 1), 0);
        DUE.of(19, "it changes nothing, and the ROW stays");
        String before = Due.all(x);
        x.old(0);
        DUE.same("old", Due.all(x), before);
    }

    private static void oldRefusals() {
        PinnedToFit x = Due.made("r1 40 50;r1 30 00;r1 30 90;");
        DUE.of(19, "-1: no such SHELF");
        refusesNoShelf("old", x::old);
        refusesOthers(19, "old", BYTES, x::old, x);
        DUE.of(19, "WIDTHS (1 .. 6, each 1 .. 99)");
        lengthsTold(x, 6, "WIDTHS", () -> x.old(4));
    }

    private static void shape() {
        PinnedToFit x = Due.made("r50 54 99;r99 1 00;r1 99 90;");
        DUE.of(20, "f (0 .. 9)");
        due("shape(0, 0)", x.shape(0, 0), 3);
        due("shape(0, 9)", x.shape(0, 9), 12);
        for (int f : new int[] {-1, 10, LEAST, MOST}) {
            due("shape(0, " + f + ")", x.shape(0, f), FAR);
        }
        DUE.of(20, "no such RING: -1000000001");
        for (int ring : new int[] {-1, 3, 6, LEAST, MOST, 1 << 30}) {
            due("shape(" + ring + ", 0)", x.shape(ring, 0), FAR);
        }
        due("no RINGS", new PinnedToFit().shape(0, 0), FAR);
        DUE.of(20, "it may be below 0");
        x.line(0, 4);
        due("0", x.shape(0, 0), 0);
        x.line(0, 5);
        due("-1 is no refusal", x.shape(0, 0), -1);
        x.line(0, 9);
        due("the least", x.shape(1, 0), -107);
        x.line(0, 0);
        due("the greatest", x.shape(2, 9), 107);
    }

    /** A DRAW by its words: 0 the z that it leaves, 1 what is drawn. */
    private static int[] drawn(int z, int below) {
        java.math.BigInteger next = java.math.BigInteger.valueOf(z)
            .multiply(java.math.BigInteger.valueOf(1103515245)).add(java.math.BigInteger.valueOf(12345));
        int left = next.intValue();
        long withoutSign = left < 0 ? left + 2147483648L : left;
        return new int[] {left, (int) (withoutSign / 65536 % below)};
    }

    private static void seeded() {
        DUE.of(21, "z becomes z times 1103515245 plus 12345 (an int), without its sign's bit over 65536");
        int[] seeds = {0, 1, -1, 5, 65535, 65536, 1 << 30, LEAST, LEAST + 1, MOST, MOST - 1, 123456789, -987654321};
        for (int z : seeds) {
            PinnedToFit x = Due.made("t3;r50 70 40;r50 60 40;r50 50 40;r50 40 40;r50 30 40;p640;");
            PinnedToFit byHand = Due.made("t3;r50 70 40;r50 60 40;r50 50 40;r50 40 40;r50 30 40;p640;");
            int put = 0;
            int seed = z;
            for (int n = 1; n <= 30; n++) {
                int[] ring = drawn(seed, 5);
                int[] kind = drawn(ring[0], 8);
                int[] figure = drawn(kind[0], 10);
                seed = figure[0];
                put += Due.pinned(byHand, kind[1], figure[1], ring[1]) >= 0 ? 1 : 0;
                due("seeded(" + n + ", " + z + ", 0)", x.seeded(n, z, 0), byHand.lacks());
                due("seeded(" + n + ", " + z + ", 1)", x.seeded(n, z, 1), put);
            }
        }
        DUE.of(21, "that PIN is put, if it MAY be; how many were put");
        PinnedToFit one = Due.made("r50 54 00;");
        due("seed 0: SET 8", one.seeded(1, 0, 1), 1);
        due("seed 0: 12 above LOOSE", one.seeded(1, 0, 0), 12);
        PinnedToFit no = Due.made("r50 1 00;");
        int refused = 0;
        for (int z = 0; z < 40; z++) {
            int[] ring = drawn(z, 1);
            int[] kind = drawn(ring[0], 8);
            int may = Due.allowed(no, kind[1], drawn(kind[0], 10)[1], 0);
            refused += 1 - may;
            due("seed " + z, no.seeded(1, z, 1), may);
        }
        due("some MAY not be", refused > 0 && refused < 40 ? 1 : 0, 1);
        DUE.of(21, "in mind (nothing stays)");
        PinnedToFit x = Due.made("t2;l9;r30 32 42;r24 24 90;r36 50 05;r20 19 00;");
        String before = Due.all(x);
        due("LACKS", x.seeded(10, 5, 0), 55);
        due("how many", x.seeded(10, 5, 1), 5);
        DUE.same("seeded", Due.all(x), before);
    }

    private static void seededRefusals() {
        PinnedToFit x = Due.made("r50 54 00;");
        DUE.of(21, "n times (1 .. 30)");
        for (int n : new int[] {0, -1, 31, LEAST, MOST}) {
            due("seeded(" + n + ", 0, 0)", x.seeded(n, 0, 0), -1);
        }
        due("seeded(1, 0, 1)", x.seeded(1, 0, 1), 1);
        due("seeded(30, 0, 1)", x.seeded(30, 0, 1) > 0 ? 1 : 0, 1);
        DUE.of(21, "-1: what 0 or 1");
        for (int what : new int[] {-1, 2, LEAST, MOST}) {
            due("seeded(1, 0, " + what + ")", x.seeded(1, 0, what), -1);
        }
        DUE.of(21, "-3 there are no RINGS");
        due("no RINGS", new PinnedToFit().seeded(1, 0, 0), -3);
        due("no RINGS", new PinnedToFit().seeded(30, 0, 1), -3);
        DUE.of(21, "-1 ahead of -3");
        due("no RINGS, n 0", new PinnedToFit().seeded(0, 0, 0), -1);
        due("no RINGS, n 31", new PinnedToFit().seeded(31, 0, 0), -1);
        due("no RINGS, what 2", new PinnedToFit().seeded(1, 0, 2), -1);
    }

    /** JUDGED in a MOVE by these elements. */
    private static int judged(PinnedToFit x, int move, int sort, int... told) {
        Due.row(x, 0, sort, told);
        return x.judge(move, 0);
    }

    private static void judge() {
        PinnedToFit x = Due.made("r50 54 04;r50 40 00;");
        DUE.of(22, "-4: all are so");
        int[][] eases = {{4, -10}, {0, -10}, {0, -10}, {3, -10}};
        for (int move = 0; move < 4; move++) {
            for (int sort = 0; sort < 3; sort++) {
                due("MOVE " + move + ", SORT " + sort, judged(x, move, sort, eases[move]), -4);
            }
        }
        DUE.of(22, "the first that isn't so");
        due("RING 0", judged(x, 0, BYTES, 5, -9), 0);
        due("RING 1", judged(x, 0, BYTES, 4, -9), 1);
        due("RING 0 by one", judged(x, 0, BYTES, 3, -10), 0);
        DUE.of(22, "the size, if it is short");
        due("empty", judged(x, 0, BYTES), 0);
        due("one element", judged(x, 0, BYTES, 4), 1);
        due("one element that isn't so", judged(x, 0, BYTES, 5), 0);
        DUE.of(22, "how many RINGS, if it is long");
        due("one too many", judged(x, 0, BYTES, 4, -10, 0), 2);
        due("one too many, the least number", judged(x, 0, BYTES, 4, -10, -128), 2);
        due("100 elements", judged(x, 0, BYTES, Arrays.copyOf(new int[] {4, -10}, 100)), 2);
        due("one too many, RING 1 isn't so", judged(x, 0, BYTES, 4, 0, 0), 1);
        due("no RINGS, one element", judged(new PinnedToFit(), 0, BYTES, 0), 0);
        due("no RINGS, the least number", judged(new PinnedToFit(), 0, BYTES, -128), 0);
        DUE.of(22, "no RINGS, no elements: -4");
        due("no RINGS, empty", judged(new PinnedToFit(), 3, INTS), -4);
        DUE.of(22, "the least number of the SORT is skipped");
        int[] leastOf = {-128, -32768, LEAST};
        for (int sort = 0; sort < 3; sort++) {
            due("RING 0 is skipped", judged(x, 0, sort, leastOf[sort], -10), -4);
            due("RING 1 is skipped", judged(x, 0, sort, 4, leastOf[sort]), -4);
            due("both are skipped", judged(x, 0, sort, leastOf[sort], leastOf[sort]), -4);
            due("RING 0 is skipped, RING 1 isn't so", judged(x, 0, sort, leastOf[sort], -9), 1);
            due("skipped, and short", judged(x, 0, sort, leastOf[sort]), 1);
            due("the least but one is not", judged(x, 0, sort, 4, leastOf[sort] + 1), 1);
            if (sort > 0) {
                due("the least of a smaller SORT is not", judged(x, 0, sort, leastOf[sort - 1], -10), 0);
            }
        }
        due("what is put in keeps its lowest bits: 128 is the least byte", judged(x, 0, BYTES, 128, -10), -4);
        DUE.of(22, "six RINGS");
        PinnedToFit six = Due.made("r9 9 00;r9 8 00;r9 7 00;r9 6 00;r9 5 00;r9 4 00;");
        due("all are so", judged(six, 0, BYTES, 0, -1, -2, -3, -4, -5), -4);
        due("the last isn't", judged(six, 0, BYTES, 0, -1, -2, -3, -4, -4), 5);
        due("one too many", judged(six, 0, BYTES, 0, -1, -2, -3, -4, -5, -6), 6);
        DUE.of(22, "it changes nothing, and the ROW stays");
        String before = Due.all(six);
        six.judge(1, 0);
        DUE.same("judge", Due.all(six), before);
    }

    private static void judgeRefusals() {
        PinnedToFit x = Due.made("r50 54 04;r50 40 00;");
        Due.row(x, 0, BYTES, 4, -10);
        DUE.of(22, "-1: MOVES 0 .. 3");
        for (int move : new int[] {-1, 4, LEAST, MOST}) {
            due("judge(" + move + ", 0)", x.judge(move, 0), -1);
            due("judge(" + move + ", 1) of nothing", x.judge(move, 1), -1);
        }
        DUE.of(22, "-1: no such SHELF");
        refusesNoShelf("judge", d -> x.judge(0, d));
        DUE.of(22, "-11: nothing is held");
        due("judge(0, 1)", x.judge(0, 1), -11);
        DUE.of(22, "-12 (no ROW)");
        x.keep(1, 1, 0, 0);
        due("judge(0, 1)", x.judge(0, 1), -12);
    }
}

import java.util.function.IntUnaryOperator;

/** The boundary cases of promises 23 to 32, sentence by sentence: the image, what is told, shelves. */
public final class EdgesOfShelvesTest {
    private static final int BYTES = 0;
    private static final int SHORTS = 1;
    private static final int INTS = 2;
    private static final int LEAST = Integer.MIN_VALUE;
    private static final int MOST = Integer.MAX_VALUE;
    private static final int[] NO_SHELF = {-1, 8, LEAST, MOST};
    private static final int NO_SUCH_SHELF = 1;
    private static final int NO_ROW_OR_PLACE = 2;

    private static final Due DUE = new Due();

    public static void main(String[] args) {
        image();
        restore();
        restoredAll();
        count();
        keep();
        row();
        rowRefusals();
        put();
        putRefusals();
        element();
        copy();
        copyPlaces();
        copyRefusals();
        minutes();
        toss();
        pinsOnShelves();
        used512Times();
        DUE.end(23, 32);
    }

    private static void due(String call, long got, long want) {
        DUE.is(call, got, want);
    }

    /** What is asked with a number that is no shelf. */
    private static void refusesNoShelf(String call, IntUnaryOperator on) {
        for (int d : NO_SHELF) {
            due(call + " of shelf " + d, on.applyAsInt(d), -1);
        }
    }

    private static void dueRow(String call, PinnedToFit x, int d, int... want) {
        for (int i = 0; i < want.length; i++) {
            due(call + ", element(" + d + ", " + i + ")", x.element(d, i), want[i]);
        }
        due(call + ", one too far", thrown(x, d, want.length), NO_ROW_OR_PLACE);
    }

    /** Which exception element throws; 0: none. */
    private static int thrown(PinnedToFit x, int d, int i) {
        try {
            x.element(d, i);
            return 0;
        } catch (IllegalArgumentException noShelf) {
            return noShelf.getClass() == IllegalArgumentException.class ? NO_SUCH_SHELF : -1;
        } catch (IllegalStateException noPlace) {
            return noPlace.getClass() == IllegalStateException.class ? NO_ROW_OR_PLACE : -1;
        }
    }

    private static void image() {
        DUE.of(23, "how many RINGS: none, one, six");
        due("no RINGS", new PinnedToFit().image(), 0);
        due("one RING", Due.made("r50 54 00;").image(), 1);
        due("six RINGS", Due.made("r1 1 00;r1 1 00;r1 1 00;r1 1 00;r1 1 00;r1 1 00;").image(), 6);
        DUE.of(23, "an image in place of another one");
        PinnedToFit x = Due.made("r50 54 00;");
        due("the first", x.image(), 1);
        Due.read(x, "r9 9 99;t9;");
        String then = Due.seen(x);
        due("the second", x.image(), 2);
        Due.read(x, "r1 1 11;t8;");
        due("restore", x.restore(), 2);
        DUE.same("restore", Due.seen(x), then);
        DUE.of(23, "it changes nothing else");
        x.keep(0, 1, 1, 1);
        Due.row(x, 1, SHORTS, 5);
        String before = Due.all(x);
        x.image();
        DUE.same("image", Due.all(x), before);
    }

    private static void restore() {
        DUE.of(24, "-3: there is none");
        PinnedToFit x = Due.made("t2;l9;r50 54 94;p610;");
        String before = Due.all(x);
        due("no image", x.restore(), -3);
        DUE.same("refused", Due.all(x), before);
        due("no image, no RINGS", new PinnedToFit().restore(), -3);
        DUE.of(24, "an image without RINGS is one");
        PinnedToFit empty = new PinnedToFit();
        empty.image();
        Due.read(empty, "r1 1 11;t0;l0;p600;p400;");
        due("restore", empty.restore(), 0);
        DUE.same("restore", Due.seen(empty), "0 0 0 1 8 0 0 ");
        due("a RING of before", empty.ring(0, 0), -1);
        DUE.of(24, "how many RINGS");
        PinnedToFit six = Due.made("r1 1 00;r1 1 00;r1 1 00;r1 1 00;r1 1 00;r1 1 00;");
        six.image();
        due("six RINGS", six.restore(), 6);
        due("no room for a seventh", Due.read(six, "r1 1 00;"), -2000);
        DUE.of(24, "THE IMAGE is not in it: it is RESTORED as often as one likes");
        x.image();
        String then = Due.seen(x);
        for (int k = 0; k < 3; k++) {
            Due.read(x, "t0;l0;r1 1 11;p500;p120;p400;");
            due("restore", x.restore(), 1);
            DUE.same("restore", Due.seen(x), then);
        }
        DUE.of(24, "SHELVES stay as they are");
        x.keep(0, 1, 3, 3);
        Due.row(x, 1, SHORTS, 5, 6);
        Due.row(x, 2, INTS, 7);
        x.image();
        x.keep(0, 0, 0, 0);
        x.keep(1, 1, 2, 2);
        Due.row(x, 2, BYTES, 8, 9);
        String shelves = Due.all(x);
        x.restore();
        DUE.same("restore", Due.all(x), shelves);
    }

    private static void restoredAll() {
        DUE.of(24, "all is as it was then: GIRTH, WIDTH, KEPT, GIVE, TIGHT, LOOSE, HOLES, MINUTES");
        String[] changes = {"r1 1 11;", "p100;", "p110;", "p210;", "p310;", "p410;", "p500;", "p620;", "p711;",
            "t0;", "l0;"};
        for (String change : changes) {
            PinnedToFit x = Due.made("t2;l9;r50 54 94;r40 44 33;p610;");
            String then = Due.seen(x);
            x.image();
            due("dress " + change, Due.read(x, change), 1);
            due("another dress by " + change, Due.seen(x).equals(then) ? 1 : 0, 0);
            due("restore", x.restore(), 2);
            DUE.same("restore behind " + change, Due.seen(x), then);
        }
        DUE.of(24, "a RING of another number that is read behind it");
        PinnedToFit x = Due.made("r50 54 94;");
        x.image();
        Due.read(x, "r40 44 33;");
        x.restore();
        Due.read(x, "r30 35 26;");
        DUE.same("another second RING", Due.seen(x), "50 54 9 4 ; 30 35 2 6 ; 2 0 0 1 8 11 89 ");
    }

    private static void count() {
        DUE.of(25, "0 RINGS, 1 HOLES, 2 MINUTES, 3 TIGHT, 4 LOOSE, 5 all KEPT, 6 all WIDTHS");
        PinnedToFit x = Due.made("r50 54 94;r50 60 11;t3;l7;p610;p120;");
        int[] want = {2, 1, 5, 3, 7, 10, 113};
        for (int what = 0; what < 7; what++) {
            due("count(" + what + ")", x.count(what), want[what]);
        }
        DUE.of(25, "all of six RINGS");
        PinnedToFit six = Due.made("r1 99 90;r1 99 90;r1 99 90;r1 99 90;r1 99 90;r1 98 80;");
        due("all KEPT", six.count(5), 53);
        due("all WIDTHS", six.count(6), 593);
        DUE.of(25, "-1 for others");
        for (int what : new int[] {-1, 7, 8, LEAST, MOST}) {
            due("count(" + what + ")", x.count(what), -1);
        }
    }

    private static void keep() {
        PinnedToFit x = new PinnedToFit();
        DUE.of(26, "-1: no such SHELF");
        refusesNoShelf("keep nothing", d -> x.keep(d, 0, 0, 0));
        refusesNoShelf("keep a PIN", d -> x.keep(d, 1, 0, 0));
        DUE.of(26, "what = 0 nothing (the others do not matter)");
        for (int v : new int[] {-1, 8, 10, LEAST, MOST}) {
            x.keep(0, 1, 1, 1);
            due("keep(0, 0, " + v + ", " + v + ")", x.keep(0, 0, v, v), 0);
            due("nothing is held", x.minutes(0), -11);
        }
        due("nothing in place of nothing", x.keep(0, 0, 0, 0), 0);
        DUE.of(26, "a KIND k (0 .. 7)");
        due("KIND 0", x.keep(0, 1, 0, 1), 0);
        due("its MINUTES", x.minutes(0), 1);
        due("KIND 7", x.keep(0, 1, 7, 1), 0);
        due("its MINUTES", x.minutes(0), 6);
        for (int k : new int[] {-1, 8, LEAST, MOST}) {
            due("KIND " + k, x.keep(0, 1, k, 1), -1);
        }
        DUE.of(26, "a FIGURE (0 .. 9)");
        due("FIGURE 0", x.keep(1, 1, 1, 0), 0);
        due("its MINUTES", x.minutes(1), 1);
        due("FIGURE 9", x.keep(1, 1, 1, 9), 0);
        due("its MINUTES", x.minutes(1), 10);
        for (int f : new int[] {-1, 10, LEAST, MOST}) {
            due("FIGURE " + f, x.keep(1, 1, 1, f), -1);
        }
        DUE.of(26, "-1: what 0 or 1");
        for (int what : new int[] {-1, 2, LEAST, MOST}) {
            due("keep(0, " + what + ", 0, 0)", x.keep(0, what, 0, 0), -1);
        }
        DUE.of(26, "a refused call changes nothing");
        due("the first PIN stays", x.minutes(0), 6);
        due("the second PIN stays", x.minutes(1), 10);
        due("the other SHELF stays empty", x.minutes(2), -11);
        DUE.of(26, "SHELF d, the first and the last of 0 .. 7, and no other");
        PinnedToFit shelves = new PinnedToFit();
        for (int d = 0; d < 8; d++) {
            due("keep(" + d + ")", shelves.keep(d, 1, 1, d), 0);
        }
        for (int d = 0; d < 8; d++) {
            due("minutes(" + d + ")", shelves.minutes(d), 1 + d);
        }
        DUE.of(26, "a PIN in place of a ROW, nothing in place of a ROW");
        Due.row(x, 0, BYTES, 1, 2);
        x.keep(0, 1, 0, 0);
        due("no ROW any more", x.put(0, 0, 0), -12);
        Due.row(x, 0, BYTES, 1, 2);
        x.keep(0, 0, 0, 0);
        due("nothing any more", x.put(0, 0, 0), -11);
    }

    private static void row() {
        PinnedToFit x = new PinnedToFit();
        DUE.of(27, "0 .. 100 elements");
        due("row(0, 0, 0)", x.row(0, BYTES, 0), 0);
        dueRow("no elements", x, 0);
        due("row(0, 0, 1)", x.row(0, BYTES, 1), 0);
        dueRow("one element", x, 0, 0);
        due("row(0, 2, 100)", x.row(0, INTS, 100), 0);
        due("put(0, 99, -5)", x.put(0, 99, -5), 0);
        due("element(0, 99)", x.element(0, 99), -5);
        due("put(0, 100, -5)", x.put(0, 100, -5), -13);
        due("element(0, 100)", thrown(x, 0, 100), NO_ROW_OR_PLACE);
        DUE.of(27, "a SORT (0 bytes, 1 shorts, 2 ints)");
        long[] kept = {0x78, 0x5678, 0x12345678};
        for (int sort = 0; sort < 3; sort++) {
            due("row(1, " + sort + ", 1)", x.row(1, sort, 1), 0);
            x.put(1, 0, 0x12345678);
            due("element of SORT " + sort, x.element(1, 0), kept[sort]);
        }
        DUE.of(27, "0 at first, whatever was there");
        for (int sort = 0; sort < 3; sort++) {
            Due.row(x, 2, sort, 5, 6, 7);
            due("row anew", x.row(2, sort, 3), 0);
            dueRow("anew", x, 2, 0, 0, 0);
        }
        Due.row(x, 2, INTS, 5, 6, 7);
        x.row(2, INTS, 1);
        dueRow("a shorter one", x, 2, 0);
        x.row(2, INTS, 3);
        dueRow("a longer one", x, 2, 0, 0, 0);
        DUE.of(27, "a ROW in place of a PIN");
        x.keep(3, 1, 1, 1);
        due("row", x.row(3, BYTES, 2), 0);
        due("no PIN any more", x.minutes(3), -12);
        dueRow("in place of a PIN", x, 3, 0, 0);
        DUE.of(27, "SHELF d, the first and the last of 0 .. 7, and no other");
        PinnedToFit shelves = new PinnedToFit();
        for (int d = 0; d < 8; d++) {
            due("row(" + d + ")", shelves.row(d, INTS, 2), 0);
            shelves.put(d, 1, d + 1);
        }
        for (int d = 0; d < 8; d++) {
            dueRow("its own", shelves, d, 0, d + 1);
        }
    }

    private static void rowRefusals() {
        PinnedToFit x = new PinnedToFit();
        Due.row(x, 0, BYTES, 7);
        x.keep(1, 1, 1, 1);
        String before = Due.all(x);
        DUE.of(27, "-1: no such SHELF");
        refusesNoShelf("row", d -> x.row(d, 0, 1));
        DUE.of(27, "-1: no such SORT");
        for (int sort : new int[] {-1, 3, LEAST, MOST}) {
            due("row(0, " + sort + ", 1)", x.row(0, sort, 1), -1);
        }
        DUE.of(27, "-1 (n above 100)");
        for (int n : new int[] {101, 102, MOST}) {
            due("row(0, 0, " + n + ")", x.row(0, 0, n), -1);
        }
        DUE.of(27, "-14 a size below 0");
        for (int n : new int[] {-1, -100, LEAST}) {
            due("row(0, 0, " + n + ")", x.row(0, 0, n), -14);
        }
        DUE.of(27, "of several refusals the first: -1, -14");
        refusesNoShelf("row of -1", d -> x.row(d, 0, -1));
        due("row(0, 3, -1)", x.row(0, 3, -1), -1);
        due("row(0, -1, -1)", x.row(0, -1, -1), -1);
        DUE.of(27, "a refused call changes nothing");
        x.row(1, 0, 101);
        x.row(1, 0, -1);
        x.row(1, 3, 1);
        DUE.same("refused ROWS", Due.all(x), before);
    }

    private static void put() {
        PinnedToFit x = new PinnedToFit();
        DUE.of(28, "what is put in keeps its lowest bits: bytes");
        int[] values = {0, 127, 128, -128, -129, 255, 256, -1, 32768, 65535, MOST, LEAST};
        int[] bytes = {0, 127, -128, -128, 127, -1, 0, -1, 0, -1, -1, 0};
        int[] shorts = {0, 127, 128, -128, -129, 255, 256, -1, -32768, -1, -1, 0};
        x.row(0, BYTES, 2);
        for (int k = 0; k < values.length; k++) {
            due("put(0, 1, " + values[k] + ")", x.put(0, 1, values[k]), 0);
            dueRow("byte of " + values[k], x, 0, 0, bytes[k]);
        }
        DUE.of(28, "what is put in keeps its lowest bits: shorts");
        x.row(0, SHORTS, 2);
        for (int k = 0; k < values.length; k++) {
            due("put(0, 1, " + values[k] + ")", x.put(0, 1, values[k]), 0);
            dueRow("short of " + values[k], x, 0, 0, shorts[k]);
        }
        Due.row(x, 0, SHORTS, 32767, -32769, 65536);
        dueRow("shorts", x, 0, 32767, 32767, 0);
        DUE.of(28, "ints keep all bits");
        x.row(0, INTS, 2);
        for (int value : values) {
            due("put(0, 1, " + value + ")", x.put(0, 1, value), 0);
            dueRow("int of " + value, x, 0, 0, value);
        }
        DUE.of(28, "element i, the first and the last");
        x.row(1, BYTES, 100);
        due("put(1, 0, 5)", x.put(1, 0, 5), 0);
        due("put(1, 99, 6)", x.put(1, 99, 6), 0);
        due("element(1, 0)", x.element(1, 0), 5);
        due("element(1, 1)", x.element(1, 1), 0);
        due("element(1, 98)", x.element(1, 98), 0);
        due("element(1, 99)", x.element(1, 99), 6);
    }

    private static void putRefusals() {
        PinnedToFit x = new PinnedToFit();
        Due.row(x, 0, BYTES, 7, 8);
        x.keep(1, 1, 1, 1);
        x.row(3, BYTES, 0);
        String before = Due.all(x);
        DUE.of(28, "-1: no such SHELF");
        refusesNoShelf("put", d -> x.put(d, 0, 0));
        DUE.of(28, "-11: nothing is held");
        due("put(2, 0, 0)", x.put(2, 0, 0), -11);
        DUE.of(28, "-12: a PIN");
        due("put(1, 0, 0)", x.put(1, 0, 0), -12);
        DUE.of(28, "-13 a place that isn't there");
        for (int i : new int[] {-1, 2, 99, 100, LEAST, MOST}) {
            due("put(0, " + i + ", 0)", x.put(0, i, 0), -13);
        }
        due("put(3, 0, 0)", x.put(3, 0, 0), -13);
        DUE.of(28, "of several refusals the first: -1, -11, -12, -13");
        due("put(2, -1, 0)", x.put(2, -1, 0), -11);
        due("put(1, -1, 0)", x.put(1, -1, 0), -12);
        due("put(8, -1, 0)", x.put(8, -1, 0), -1);
        DUE.of(28, "a refused call changes nothing");
        DUE.same("refused", Due.all(x), before);
    }

    private static void element() {
        PinnedToFit x = new PinnedToFit();
        Due.row(x, 0, INTS, 5, LEAST, MOST);
        x.row(1, BYTES, 0);
        x.keep(2, 1, 0, 0);
        DUE.of(29, "element i, the first and the last");
        due("element(0, 0)", x.element(0, 0), 5);
        due("element(0, 1)", x.element(0, 1), LEAST);
        due("element(0, 2)", x.element(0, 2), MOST);
        DUE.of(29, "IllegalArgumentException: no such SHELF");
        for (int d : NO_SHELF) {
            due("element(" + d + ", 0)", thrown(x, d, 0), NO_SUCH_SHELF);
            due("element(" + d + ", -1)", thrown(x, d, -1), NO_SUCH_SHELF);
        }
        DUE.of(29, "IllegalStateException: no ROW");
        due("a PIN", thrown(x, 2, 0), NO_ROW_OR_PLACE);
        due("nothing", thrown(x, 3, 0), NO_ROW_OR_PLACE);
        DUE.of(29, "IllegalStateException: no such place");
        for (int i : new int[] {-1, 3, 99, 100, LEAST, MOST}) {
            due("element(0, " + i + ")", thrown(x, 0, i), NO_ROW_OR_PLACE);
        }
        due("an empty ROW", thrown(x, 1, 0), NO_ROW_OR_PLACE);
        DUE.of(29, "a place of what was there is no place");
        x.keep(0, 0, 0, 0);
        due("nothing any more", thrown(x, 0, 0), NO_ROW_OR_PLACE);
        x.row(0, INTS, 1);
        due("a shorter one", thrown(x, 0, 1), NO_ROW_OR_PLACE);
    }

    private static void copy() {
        PinnedToFit x = new PinnedToFit();
        DUE.of(30, "n elements from i on come to those from j on: n");
        Due.row(x, 0, BYTES, 1, 2, 3, 4, 5);
        x.row(1, BYTES, 4);
        due("copy(0, 2, 1, 1, 3)", x.copy(0, 2, 1, 1, 3), 3);
        dueRow("copy", x, 1, 0, 3, 4, 5);
        DUE.of(30, "what is taken from a SHELF stays there");
        dueRow("copy", x, 0, 1, 2, 3, 4, 5);
        DUE.of(30, "no elements (n 0)");
        due("copy(0, 0, 1, 0, 0)", x.copy(0, 0, 1, 0, 0), 0);
        due("behind the last of both", x.copy(0, 5, 1, 4, 0), 0);
        dueRow("copy", x, 1, 0, 3, 4, 5);
        x.row(2, BYTES, 0);
        due("empty ROWS", x.copy(2, 0, 2, 0, 0), 0);
        DUE.of(30, "all elements, 100 of them");
        for (int sort = 0; sort < 3; sort++) {
            PinnedToFit full = new PinnedToFit();
            full.row(0, sort, 100);
            full.row(1, sort, 100);
            full.put(0, 0, 7);
            full.put(0, 99, -7);
            due("copy(0, 0, 1, 0, 100)", full.copy(0, 0, 1, 0, 100), 100);
            due("element(1, 0)", full.element(1, 0), 7);
            due("element(1, 1)", full.element(1, 1), 0);
            due("element(1, 99)", full.element(1, 99), -7);
            due("copy(0, 0, 1, 0, 101)", full.copy(0, 0, 1, 0, 101), -13);
            due("copy(0, 1, 1, 0, 100)", full.copy(0, 1, 1, 0, 100), -13);
        }
        DUE.of(30, "the same SHELF for both, what is read lying over what is put");
        due("further on", x.copy(0, 0, 0, 1, 4), 4);
        dueRow("further on", x, 0, 1, 1, 2, 3, 4);
        due("further back", x.copy(0, 1, 0, 0, 4), 4);
        dueRow("further back", x, 0, 1, 2, 3, 4, 4);
        due("on itself", x.copy(0, 0, 0, 0, 5), 5);
        dueRow("on itself", x, 0, 1, 2, 3, 4, 4);
    }

    private static void copyPlaces() {
        PinnedToFit x = new PinnedToFit();
        Due.row(x, 0, SHORTS, 1, 2, 3, 4, 5);
        Due.row(x, 1, SHORTS, 6, 7, 8, 9);
        String before = Due.all(x);
        DUE.of(30, "-13 a place that isn't there: of d");
        int[][] ofD = {{-1, 0, 1}, {5, 0, 1}, {4, 0, 2}, {3, 0, 3}, {6, 0, 0}, {-1, 0, 0}, {LEAST, 0, 1}, {MOST, 0, 1}};
        for (int[] w : ofD) {
            due("copy(0, " + w[0] + ", 1, " + w[1] + ", " + w[2] + ")", x.copy(0, w[0], 1, w[1], w[2]), -13);
        }
        DUE.of(30, "-13 a place that isn't there: of e");
        int[][] ofE = {{0, -1, 1}, {0, 4, 1}, {0, 3, 2}, {0, 0, 5}, {0, 5, 0}, {0, LEAST, 1}, {0, MOST, 1}};
        for (int[] w : ofE) {
            due("copy(0, " + w[0] + ", 1, " + w[1] + ", " + w[2] + ")", x.copy(0, w[0], 1, w[1], w[2]), -13);
        }
        DUE.of(30, "-13: a size that isn't as told, and sums beyond all ints");
        int[][] sums = {{0, 0, -1}, {1, 1, -1}, {0, 0, LEAST}, {1, 1, MOST}, {MOST, MOST, MOST}, {0, 0, 6},
            {MOST, 0, 2}, {0, MOST, 2}, {5, 4, -1}, {LEAST, LEAST, LEAST}, {-1, -1, MOST}};
        for (int[] w : sums) {
            due("copy(0, " + w[0] + ", 1, " + w[1] + ", " + w[2] + ")", x.copy(0, w[0], 1, w[1], w[2]), -13);
        }
        DUE.of(30, "a refused call changes nothing");
        DUE.same("refused", Due.all(x), before);
        DUE.of(30, "the last places");
        due("copy(0, 4, 1, 3, 1)", x.copy(0, 4, 1, 3, 1), 1);
        dueRow("copy", x, 1, 6, 7, 8, 5);
    }

    private static void copyRefusals() {
        PinnedToFit x = new PinnedToFit();
        Due.row(x, 0, BYTES, 1, 2, 3);
        x.keep(1, 1, 0, 0);
        x.row(3, SHORTS, 3);
        x.row(4, INTS, 3);
        String before = Due.all(x);
        DUE.of(30, "-1: no such SHELF, of both");
        refusesNoShelf("copy, d", d -> x.copy(d, 0, 0, 0, 1));
        refusesNoShelf("copy, e", e -> x.copy(0, 0, e, 0, 1));
        DUE.of(30, "-11 (either)");
        due("nothing in d", x.copy(2, 0, 0, 0, 1), -11);
        due("nothing in e", x.copy(0, 0, 2, 0, 1), -11);
        due("nothing in both", x.copy(2, 0, 2, 0, 1), -11);
        DUE.of(30, "-12 (no ROWS of one SORT)");
        due("a PIN in d", x.copy(1, 0, 0, 0, 1), -12);
        due("a PIN in e", x.copy(0, 0, 1, 0, 1), -12);
        due("PINS in both", x.copy(1, 0, 1, 0, 1), -12);
        for (int d = 0; d < 5; d++) {
            for (int e = 0; e < 5; e++) {
                if (d != e && d != 1 && e != 1 && d != 2 && e != 2) {
                    due("copy of ROWS " + d + " and " + e, x.copy(d, 0, e, 0, 1), -12);
                }
            }
        }
        DUE.of(30, "of several refusals the first: -1, -11, -12, -13");
        due("nothing in d, e no SHELF", x.copy(2, 0, 8, 0, 1), -1);
        due("d no SHELF, nothing in e", x.copy(8, 0, 2, 0, 1), -1);
        due("a PIN in d, nothing in e", x.copy(1, 0, 2, 0, 1), -11);
        due("nothing in d, a PIN in e", x.copy(2, 0, 1, 0, 1), -11);
        due("nothing in e, no such place", x.copy(0, 9, 2, 9, -1), -11);
        due("another SORT, no such place", x.copy(0, 9, 3, 9, -1), -12);
        due("a PIN, no such place", x.copy(0, 9, 1, 9, -1), -12);
        DUE.of(30, "a refused call changes nothing");
        DUE.same("refused", Due.all(x), before);
    }

    private static int minutesOf(int kind, int figure) {
        PinnedToFit x = new PinnedToFit();
        x.keep(0, 1, kind, figure);
        return x.minutes(0);
    }

    private static int failureOf(int kind, int figure) {
        PinnedToFit x = new PinnedToFit();
        x.keep(0, 1, kind, figure);
        return x.toss(0);
    }

    private static void minutes() {
        String[] told = {"PIN 1", "TAKEN a PIN's and FIGURE", "LET a PIN's and twice FIGURE",
            "TURNED three times a TAKEN's", "SET a LET's and 9", "UNDONE a PIN's less 1", "SHOWN a LET's less FIGURE",
            "LAST a TAKEN's and 4"};
        int[] atFigure0 = {1, 1, 1, 3, 10, 0, 1, 5};
        int[] perFigure = {0, 1, 2, 3, 2, 0, 1, 1};
        for (int kind = 0; kind < 8; kind++) {
            DUE.of(31, "MINUTES of a PIN: " + told[kind] + ", FIGURES 0 .. 9");
            for (int f = 0; f < 10; f++) {
                int want = atFigure0[kind] + perFigure[kind] * f;
                due("minutes of KIND " + kind + ", FIGURE " + f, minutesOf(kind, f), want);
            }
        }
        PinnedToFit x = new PinnedToFit();
        DUE.of(31, "-1: no such SHELF");
        refusesNoShelf("minutes", x::minutes);
        DUE.of(31, "-11: nothing is held");
        due("minutes(0)", x.minutes(0), -11);
        DUE.of(31, "-12 (a ROW)");
        for (int sort = 0; sort < 3; sort++) {
            x.row(0, sort, sort);
            due("minutes of a ROW of SORT " + sort, x.minutes(0), -12);
        }
    }

    private static void toss() {
        DUE.of(32, "its FIGURE");
        for (int kind : new int[] {0, 1, 2, 6, 7}) {
            for (int f = 1; f < 10; f++) {
                due("toss of KIND " + kind + ", FIGURE " + f, failureOf(kind, f), f);
            }
        }
        DUE.of(32, "of TURNED ones 100 more");
        for (int f = 1; f < 10; f++) {
            due("toss of TURNED " + f, failureOf(3, f), 100 + f);
        }
        DUE.of(32, "of SET ones 200 plus their MINUTES, in place of all that (FIGURE, too)");
        for (int f = 1; f < 10; f++) {
            due("toss of SET " + f, failureOf(4, f), 200 + 10 + 2 * f);
        }
        DUE.of(32, "-15: UNDONE ones have none");
        for (int f = 0; f < 10; f++) {
            due("toss of UNDONE " + f, failureOf(5, f), -15);
        }
        DUE.of(32, "-15: any with FIGURE 0 have none");
        for (int kind = 0; kind < 8; kind++) {
            due("toss of KIND " + kind + ", FIGURE 0", failureOf(kind, 0), -15);
        }
        PinnedToFit x = new PinnedToFit();
        DUE.of(32, "-1: no such SHELF");
        refusesNoShelf("toss", x::toss);
        DUE.of(32, "-11: nothing is held");
        due("toss(0)", x.toss(0), -11);
        DUE.of(32, "-12 (a ROW)");
        for (int sort = 0; sort < 3; sort++) {
            x.row(0, sort, sort);
            due("toss of a ROW of SORT " + sort, x.toss(0), -12);
        }
    }

    private static void pinsOnShelves() {
        PinnedToFit x = Due.made("r50 54 00;");
        DUE.of(31, "what is taken from a SHELF stays there, and nothing else changes");
        x.keep(0, 1, 3, 2);
        Due.row(x, 1, INTS, 4);
        String before = Due.all(x);
        due("minutes(0)", x.minutes(0), 9);
        DUE.same("minutes", Due.all(x), before);
        DUE.of(32, "what is taken from a SHELF stays there, and nothing else changes");
        due("toss(0)", x.toss(0), 102);
        due("toss(0) once more", x.toss(0), 102);
        DUE.same("toss", Due.all(x), before);
    }

    private static void used512Times() {
        DUE.of(23, "an object is used for at most 512 calls after it has been made: the last one is as told");
        PinnedToFit x = new PinnedToFit();
        Due.text(x, 0, "r50 54 00;");
        x.dress(0);
        for (int call = 12; call < 511; call++) {
            if (x.image() != 1) {
                due("call " + call, 0, 1);
            }
        }
        due("call 511", x.line(0, 9), 1);
        due("call 512", x.restore(), 1);
        DUE.of(32, "512 times thrown and caught");
        PinnedToFit y = new PinnedToFit();
        y.keep(0, 1, 4, 9);
        int right = 0;
        for (int call = 1; call < 512; call++) {
            right += y.toss(0) == 228 ? 1 : 0;
        }
        due("how often", right, 511);
    }
}

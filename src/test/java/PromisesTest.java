/** Each promise by its number: ordinary calls, the edges that the document names, wrong calls. */
public final class PromisesTest {
    private static final int BYTES = 0;
    private static final int SHORTS = 1;
    private static final int INTS = 2;
    private static final int FAR = -1000000001;
    private static final int[] NO_SHELF = {-1, 8, -2147483648, 2147483647};

    private static final Due DUE = new Due();

    public static void main(String[] args) {
        newObject();
        dressForm();
        dressSense();
        ring();
        line();
        may();
        pinsTakenAndLet();
        pinsOfOtherKinds();
        pinRefusals();
        ease();
        fit();
        lacks();
        bestPin();
        least();
        first();
        orders();
        hem();
        darts();
        stripes();
        measures();
        sizes();
        old();
        shape();
        seeded();
        judge();
        imageAndRestore();
        count();
        keep();
        row();
        put();
        element();
        copy();
        minutes();
        toss();
        refusedCallsChangeNothing();
        DUE.end(1, 32);
    }

    private static void due(String call, long got, long want) {
        DUE.is(call, got, want);
    }

    /** A new object with one ring: GIRTH 50 and this WIDTH, KEPT, GIVE. */
    private static PinnedToFit one(int width, int kept, int give) {
        return Due.made("r50 " + width + " " + kept + give + ";");
    }

    /** Promise 1. */
    private static void newObject() {
        DUE.of(1, "the whole");
        PinnedToFit x = new PinnedToFit();
        DUE.same("a new object", Due.seen(x), "0 0 0 1 8 0 0 ");
        for (int d = 0; d < 8; d++) {
            due("minutes of a shelf at first", x.minutes(d), -11);
        }
        due("no image at first", x.restore(), -3);
        due("no lacks at first", x.lacks(), 0);
    }

    /** Promise 2, faults of kind 1. */
    private static void dressForm() {
        DUE.of(2, "the whole");
        PinnedToFit x = new PinnedToFit();
        String[] texts = {
            "", "x", ";", "r", "r;", "rx", "r1", "r1;", "r12", "r123", "r01 ", "r0 ", "r1  ", "r1 2", "r1 2;",
            "r1 23", "r1 234", "r1 02", "r1 2 ", "r1 2 3", "r1 2 3;", "r1 2 34", "r1 2 345", "r1 2 34 ", "r-1 2 34;",
            "t", "t;", "t1", "t12", "t1;", "t1;t", "t1; t2;", "l", "l;", "l1", "l12", "l123", "l01", "l00;", "p",
            "p1", "p11", "p110", "p1100", "p110 ", "p1 10;", "T1;", "t1;\n", "t1;;", "r1 2 34;x"};
        int[] places = {
            0, 0, 0, 1, 1, 1, 2, 2, 3, 3, 2, 3, 3, 4, 4,
            5, 5, 4, 5, 6, 6, 7, 7, 7, 1,
            1, 1, 2, 2, 99, 4, 3, 1, 1, 2, 3, 3, 2, 2, 1,
            2, 3, 4, 4, 4, 2, 0, 3, 3, 8};
        for (int k = 0; k < texts.length; k++) {
            if (places[k] != 99) {
                due("dress " + texts[k], Due.read(x, texts[k]), -1000 - places[k]);
            }
        }
        due("kind 1 goes ahead", Due.read(x, "r0 1 00;l31;p999;x"), -1017);
        due("kind 1 goes ahead, too early", Due.read(x, "l31;t1"), -1006);
        Due.row(x, 0, BYTES, 't', -1, ';');
        due("a byte below 0", x.dress(0), -1001);
        Due.row(x, 0, BYTES, 't', '1' + 256, ';');
        due("lowest bits of a byte", x.dress(0), 1);
        due("TIGHT behind it", x.count(3), 1);
        DUE.same("faults", Due.seen(x), "0 0 0 1 8 0 0 ");
        for (int d : NO_SHELF) {
            due("dress(" + d + ")", x.dress(d), -1);
        }
        due("dress of nothing", x.dress(1), -11);
        x.keep(1, 1, 0, 0);
        due("dress of a PIN", x.dress(1), -12);
        Due.row(x, 1, SHORTS, 't', '1', ';');
        due("dress of shorts", x.dress(1), -12);
        Due.row(x, 1, INTS, 't', '1', ';');
        due("dress of ints", x.dress(1), -12);
    }

    /** Promise 2, what comes to what there is, and faults of kind 2. */
    private static void dressSense() {
        DUE.of(2, "the whole");
        PinnedToFit x = new PinnedToFit();
        due("a dress", Due.read(x, "r30 32 42;t2;r1 99 90;l30;p121;"), 5);
        DUE.same("a dress", Due.seen(x), "30 32 4 2 ; 1 97 9 0 ; 2 0 3 2 30 13 129 ");
        due("more to it", Due.read(x, "p220;r99 1 09;"), 2);
        DUE.same("more to it", Due.seen(x), "30 34 2 2 ; 1 97 9 0 ; 99 1 0 9 ; 3 0 8 2 30 11 132 ");
        String before = Due.seen(x);
        due("GIRTH 0", Due.read(x, "t9;r0 1 00;"), -2003);
        due("WIDTH 0", Due.read(x, "t9;l9;r1 0 00;"), -2006);
        due("LOOSE 31", Due.read(x, "t9;l31;r0 1 00;"), -2003);
        due("LOOSE 99", Due.read(x, "l99;"), -2000);
        due("KIND 8", Due.read(x, "t9;p800;"), -2003);
        due("KIND 9", Due.read(x, "p900;"), -2000);
        due("no such RING", Due.read(x, "r1 1 00;p104;"), -2008);
        due("a RING too late", Due.read(x, "p003;r1 1 00;"), -2000);
        due("a PIN that MAY not be", Due.read(x, "t9;l0;p102;p112;"), -2011);
        due("MAY not be behind others", Due.read(x, "p220;p210;"), -2005);
        due("no HOLES", Due.read(x, "p500;"), -2000);
        due("no room", Due.read(x, "r1 1 00;r1 1 00;r1 1 00;r1 1 00;"), -2024);
        DUE.same("faults", Due.seen(x), before);
        due("HOLES, and one less", Due.read(x, "p620;p500;"), 2);
        due("HOLES", x.count(1), 1);
        due("six RINGS", Due.read(x, "r1 1 00;r1 1 00;r1 1 00;"), 3);
        due("a seventh", Due.read(x, "r1 1 00;"), -2000);
        due("no fault in t", Due.read(x, "t0;t9;l0;l30;"), 4);
        StringBuilder long100 = new StringBuilder("t1;");
        for (int k = 0; k < 32; k++) {
            long100.append("t1;");
        }
        due("33 STATEMENTS", Due.read(x, long100.toString()), 33);
        due("33 STATEMENTS and one begun", Due.read(x, long100.append('t').toString()), -1100);
        due("what is read stays", x.element(7, 0), 't');
    }

    /** Promise 3. */
    private static void ring() {
        DUE.of(3, "the whole");
        PinnedToFit x = Due.made("r30 42 57;r1 2 34;");
        int[] first = {30, 42, 5, 7};
        int[] second = {1, 2, 3, 4};
        for (int what = 0; what < 4; what++) {
            due("ring(0, " + what + ")", x.ring(0, what), first[what]);
            due("ring(1, " + what + ")", x.ring(1, what), second[what]);
            due("ring(2, " + what + ")", x.ring(2, what), -1);
            due("ring(-1, " + what + ")", x.ring(-1, what), -1);
        }
        due("ring(0, 4)", x.ring(0, 4), -1);
        due("ring(0, -1)", x.ring(0, -1), -1);
        due("ring(1 << 30, 0)", x.ring(1 << 30, 0), -1);
    }

    /** Promise 4. */
    private static void line() {
        DUE.of(4, "the whole");
        PinnedToFit x = new PinnedToFit();
        due("line(0, 9)", x.line(0, 9), 1);
        due("line(0, 0)", x.line(0, 0), 9);
        due("line(1, 30)", x.line(1, 30), 8);
        due("line(1, 0)", x.line(1, 0), 30);
        int[][] wrong = {{0, 10}, {0, -1}, {1, 31}, {1, -1}, {2, 1}, {-1, 1}};
        for (int[] w : wrong) {
            due("line(" + w[0] + ", " + w[1] + ")", x.line(w[0], w[1]), -1);
        }
        due("TIGHT", x.count(3), 0);
        due("LOOSE", x.count(4), 0);
    }

    /** Promise 5. */
    private static void may() {
        DUE.of(5, "the whole");
        PinnedToFit x = Due.made("r50 5 30;r50 4 00;");
        for (int ring = 0; ring < 2; ring++) {
            due("PIN", Due.allowed(x, 0, 9, ring), 1);
            due("SET", Due.allowed(x, 4, 9, ring), 1);
            due("UNDONE without HOLES", Due.allowed(x, 5, 0, ring), 0);
        }
        due("TAKEN, WIDTH above FIGURE", Due.allowed(x, 1, 4, 0), 1);
        due("TAKEN, WIDTH as FIGURE", Due.allowed(x, 1, 5, 0), 0);
        due("LET, KEPT as FIGURE", Due.allowed(x, 2, 3, 0), 1);
        due("LET, KEPT below FIGURE", Due.allowed(x, 2, 4, 0), 0);
        due("LET of 0", Due.allowed(x, 2, 0, 1), 1);
        due("TURNED", Due.allowed(x, 3, 4, 0), 1);
        due("TURNED, WIDTH as FIGURE", Due.allowed(x, 3, 5, 0), 0);
        due("TURNED at the last RING", Due.allowed(x, 3, 1, 1), 0);
        due("SHOWN", Due.allowed(x, 6, 3, 0), 1);
        due("SHOWN, KEPT below FIGURE", Due.allowed(x, 6, 4, 0), 0);
        due("LAST", Due.allowed(x, 7, 3, 1), 1);
        due("LAST, WIDTH as FIGURE", Due.allowed(x, 7, 4, 1), 0);
        due("LAST at another RING", Due.allowed(x, 7, 1, 0), 0);
        Due.pinned(x, 6, 1, 0);
        due("UNDONE with a HOLE", Due.allowed(x, 5, 9, 1), 1);
        due("may changes nothing", x.count(1), 1);
        due("no such RING", x.may(6, 2), -1);
        due("no such RING, nothing held", x.may(0, -1), -1);
        for (int d : NO_SHELF) {
            due("may(" + d + ", 0)", x.may(d, 0), -1);
        }
        due("nothing held", x.may(0, 0), -11);
        x.row(0, BYTES, 3);
        due("a ROW", x.may(0, 0), -12);
    }

    /** Promise 6: TAKEN, LET and what holds for both. */
    private static void pinsTakenAndLet() {
        DUE.of(6, "the whole");
        PinnedToFit x = one(55, 3, 0);
        due("PIN", Due.pinned(x, 0, 9, 0), 0);
        DUE.same("PIN", Due.seen(x), "50 55 3 0 ; 1 0 1 1 8 3 55 ");
        due("TAKEN 5: EASE 0, 0, -2, -1", Due.pinned(x, 1, 5, 0), 1 + 1 + 3 + 2);
        DUE.same("TAKEN", Due.seen(x), "50 50 5 0 ; 1 0 7 1 8 5 50 ");
        Due.pinned(x, 1, 9, 0);
        DUE.same("KEPT 9 at most", Due.seen(x), "50 41 9 0 ; 1 0 17 1 8 9 41 ");
        Due.pinned(x, 1, 9, 0);
        DUE.same("KEPT 9 at most, once more", Due.seen(x), "50 32 9 0 ; 1 0 27 1 8 9 32 ");
        Due.pinned(x, 2, 7, 0);
        DUE.same("LET", Due.seen(x), "50 39 2 0 ; 1 0 42 1 8 2 39 ");
        PinnedToFit wide = one(97, 9, 0);
        Due.pinned(wide, 2, 5, 0);
        DUE.same("WIDTH 99 at most", Due.seen(wide), "50 99 4 0 ; 1 0 11 1 8 4 99 ");
        Due.pinned(wide, 1, 1, 0);
        DUE.same("half of 1 is 0", Due.seen(wide), "50 98 4 0 ; 1 0 13 1 8 4 98 ");
        due("what is taken from a SHELF stays", wide.minutes(6), 2);
    }

    /** Promise 6: the other KINDS. */
    private static void pinsOfOtherKinds() {
        DUE.of(6, "the whole");
        PinnedToFit x = Due.made("r50 60 00;r50 92 10;r50 2 90;");
        Due.pinned(x, 3, 9, 0);
        DUE.same("TURNED", Due.seen(x), "50 51 4 0 ; 50 99 1 0 ; 50 2 9 0 ; 3 0 30 1 8 14 152 ");
        Due.pinned(x, 3, 3, 1);
        DUE.same("TURNED at the RING ahead of the last", Due.seen(x),
            "50 51 4 0 ; 50 96 2 0 ; 50 5 9 0 ; 3 0 42 1 8 15 152 ");
        Due.pinned(x, 4, 1, 1);
        DUE.same("SET", Due.seen(x), "50 51 4 0 ; 50 98 2 0 ; 50 5 9 0 ; 3 0 54 1 8 15 154 ");
        Due.pinned(x, 4, 9, 1);
        DUE.same("SET, WIDTH 99 at most", Due.seen(x), "50 51 4 0 ; 50 99 2 0 ; 50 5 9 0 ; 3 0 82 1 8 15 155 ");
        Due.pinned(x, 6, 4, 0);
        DUE.same("SHOWN", Due.seen(x), "50 55 0 0 ; 50 99 2 0 ; 50 5 9 0 ; 3 4 87 1 8 11 159 ");
        Due.pinned(x, 5, 9, 2);
        DUE.same("UNDONE", Due.seen(x), "50 55 0 0 ; 50 99 2 0 ; 50 5 9 0 ; 3 3 87 1 8 11 159 ");
        Due.pinned(x, 7, 4, 2);
        DUE.same("LAST", Due.seen(x), "50 54 0 0 ; 50 98 2 0 ; 50 1 9 0 ; 3 3 96 1 8 11 153 ");
        PinnedToFit narrow = Due.made("r50 1 00;r50 2 00;r50 9 00;");
        Due.pinned(narrow, 7, 0, 2);
        Due.pinned(narrow, 7, 0, 2);
        DUE.same("LAST, 1 at least", Due.seen(narrow), "50 1 0 0 ; 50 1 0 0 ; 50 9 0 0 ; 3 0 10 1 8 0 11 ");
        PinnedToFit undone = one(50, 9, 0);
        Due.pinned(undone, 6, 1, 0);
        Due.pinned(undone, 5, 0, 0);
        due("the last HOLE", undone.count(1), 0);
        due("no HOLE any more", Due.pinned(undone, 5, 0, 0), -3);
        PinnedToFit holed = one(50, 9, 0);
        for (int k = 0; k < 13; k++) {
            Due.pinned(holed, 6, 8, 0);
            Due.pinned(holed, 4, 5, 0);
            Due.pinned(holed, 1, 9, 0);
            Due.pinned(holed, 1, 9, 0);
        }
        due("HOLES 99 at most", holed.count(1), 99);
    }

    /** Promise 6: refusals, and MINUTES 9999 at most. */
    private static void pinRefusals() {
        DUE.of(6, "the whole");
        PinnedToFit x = one(5, 0, 0);
        String before = Due.seen(x);
        due("TAKEN, WIDTH as FIGURE", Due.pinned(x, 1, 5, 0), -3);
        due("LET", Due.pinned(x, 2, 1, 0), -3);
        due("TURNED", Due.pinned(x, 3, 1, 0), -3);
        due("UNDONE", Due.pinned(x, 5, 1, 0), -3);
        due("SHOWN", Due.pinned(x, 6, 1, 0), -3);
        due("LAST", Due.pinned(x, 7, 5, 0), -3);
        due("no such RING", x.pin(6, 1), -1);
        due("no such RING", x.pin(6, -1), -1);
        for (int d : NO_SHELF) {
            due("pin(" + d + ", 0)", x.pin(d, 0), -1);
        }
        due("nothing held", x.pin(0, 0), -11);
        x.row(0, BYTES, 3);
        due("a ROW", x.pin(0, 0), -12);
        DUE.same("refused PINS", Due.seen(x), before);
        x.keep(6, 1, 4, 9);
        for (int k = 0; k < 357; k++) {
            x.pin(6, 0);
        }
        due("MINUTES", x.count(2), 357 * 28);
        x.pin(6, 0);
        due("MINUTES 9999 at most", x.count(2), 9999);
    }

    /** Promise 7. */
    private static void ease() {
        DUE.of(7, "the whole");
        PinnedToFit x = Due.made("r50 55 09;r50 49 09;r1 99 00;r99 1 09;r50 50 01;r50 50 01;");
        int[][] want = {
            {5, -4, -1, 4}, {-1, -10, -5, -1}, {98, 98, 98, 97}, {-98, -107, -102, -98}, {0, -1, 0, -1}, {0, -1, 0, 0}};
        for (int ring = 0; ring < 6; ring++) {
            for (int move = 0; move < 4; move++) {
                due("ease(" + ring + ", " + move + ")", x.ease(ring, move), want[ring][move]);
            }
        }
        due("no such RING", x.ease(6, 0), FAR);
        due("no such RING", x.ease(-1, 0), FAR);
        due("no such MOVE", x.ease(0, 4), FAR);
        due("no such MOVE", x.ease(0, -1), FAR);
        due("RING of others", one(1, 0, 0).ease(1, 0), FAR);
    }

    /** Promise 8. */
    private static void fit() {
        DUE.of(8, "the whole");
        PinnedToFit x = Due.made("r50 51 00;r50 58 08;r50 59 00;r50 51 01;r50 53 00;");
        due("standing", x.fit(0), 0b11011);
        due("sitting", x.fit(1), 0b10101);
        due("arms up", x.fit(2), 0b11110);
        due("breathing", x.fit(3), 0b11110);
        due("ALL", x.fit(-1), 0b10000);
        x.line(0, 3);
        due("TIGHT 3", x.fit(0), 0b10010);
        x.line(1, 2);
        due("nothing is above TIGHT and below LOOSE", x.fit(0), 0);
        due("LOOSE counts standing alone", x.fit(1), 0b10100);
        due("no such MOVE", x.fit(4), -1);
        due("no such MOVE", x.fit(-2), -1);
        due("no RINGS", new PinnedToFit().fit(-1), 0);
    }

    /** Promise 9. */
    private static void lacks() {
        DUE.of(9, "the whole");
        due("fits", one(54, 0, 2).lacks(), 0);
        due("too loose by 3, standing", one(61, 0, 0).lacks(), 3);
        due("too tight by 1, 5, 5, 2", one(50, 0, 4).lacks(), 1 + 5 + 5 + 2);
        PinnedToFit x = Due.made("r50 52 00;r50 60 00;");
        due("arms up 1 at RING 0, loose 2 at RING 1", x.lacks(), 3);
        x.line(0, 9);
        x.line(1, 0);
        due("tight and loose at once", x.lacks(), (7 + 7 + 9 + 8 + 2) + 10);
        due("RINGS 1, 3, 5 breathe freely", Due.made("r9 14 00;r9 10 00;r9 11 00;r9 10 00;").lacks(), 0);
    }

    /** Promise 10. */
    private static void bestPin() {
        DUE.of(10, "the whole");
        due("nothing lacks", one(54, 9, 0).bestPin(1, 0), -4);
        due("nothing lacks", one(54, 9, 0).bestPin(1, 1), 0);
        PinnedToFit x = one(61, 0, 0);
        due("TAKEN 3: less MINUTES than 4", x.bestPin(1, 0), 13);
        due("TAKEN 3", x.bestPin(1, 1), 0);
        PinnedToFit tight = one(50, 9, 0);
        due("SHOWN 3 has less MINUTES than LET 3", tight.bestPin(1, 0), 63);
        due("SHOWN 3", tight.bestPin(0, 1), 0);
        PinnedToFit bare = one(50, 0, 0);
        due("SET 2", bare.bestPin(1, 0), 42);
        due("SET 2", bare.bestPin(1, 1), 0);
        due("without SET none", bare.bestPin(0, 0), -4);
        due("as now", bare.bestPin(0, 1), 1 + 1 + 3 + 2);
        PinnedToFit twins = Due.made("t0;r50 54 30;r50 61 30;r50 61 30;r50 54 30;");
        due("the first by RINGS", twins.bestPin(0, 0), 113);
        due("TURNED from above makes up for both", Due.made("t0;r50 61 00;r50 47 00;").bestPin(0, 0), 33);
        due("LAST takes in above", Due.made("t0;r50 59 00;r50 59 00;r50 55 00;").bestPin(0, 0), 270);
        due("of the same LACKS and MINUTES the least KIND", Due.made("t0;r50 59 00;").bestPin(0, 0), 11);
        PinnedToFit holed = Due.made("r50 54 90;p610;t9;l0;");
        due("worse by all PINS but some", holed.bestPin(1, 1) < holed.lacks() ? 1 : 0, 1);
        String before = Due.seen(holed);
        holed.bestPin(1, 0);
        DUE.same("bestPin", Due.seen(holed), before);
        int[][] wrong = {{2, 0}, {-1, 0}, {0, 2}, {0, -1}};
        for (int[] w : wrong) {
            due("bestPin(" + w[0] + ", " + w[1] + ")", x.bestPin(w[0], w[1]), -1);
        }
        due("no RINGS", new PinnedToFit().bestPin(1, 0), -4);
    }

    /** Promise 11. */
    private static void least() {
        DUE.of(11, "the whole");
        PinnedToFit x = one(61, 0, 0);
        String before = Due.seen(x);
        Due.row(x, 0, BYTES, 1, 2, 0, 1, 1, 0, 1, 3, 0);
        due("TAKEN 3 alone has less MINUTES", x.least(0, 0), 4);
        due("LACKS then", x.least(0, 1), 0);
        Due.row(x, 0, BYTES, 1, 1, 0, 1, 1, 0);
        due("both", x.least(0, 0), 3);
        due("both lack 1", x.least(0, 1), 1);
        Due.row(x, 0, BYTES, 1, 3, 0, 1, 3, 0);
        due("the least as bits", x.least(0, 0), 1);
        Due.row(x, 0, BYTES, 0, 0, 0, 5, 0, 0);
        due("none, with the least MINUTES", x.least(0, 0), 0);
        due("as now", x.least(0, 1), 3);
        Due.row(x, 0, BYTES, 5, 0, 0, 1, 3, 0);
        due("what MAY not be is left", x.least(0, 0), 2);
        Due.row(x, 0, BYTES, 2, 1, 0, 1, 9, 0, 2, 4, 0);
        due("in its order: LET behind TAKEN", x.least(0, 0), 6);
        due("in its order", x.least(0, 1), 0);
        Due.row(x, 0, BYTES, 1, 0, 0, 1, 0, 0, 1, 0, 0, 1, 0, 0, 1, 0, 0, 1, 3, 0);
        due("six PINS", x.least(0, 0), 32);
        Due.row(x, 0, BYTES, 1, 5, 0, 1, 4, 0, 1, 3, 0);
        due("the least FIGURE that will do, the third", x.least(0, 0), 4);
        Due.row(x, 0, BYTES, 1, 3, 0, 1, 5, 0, 1, 4, 0);
        due("the least FIGURE that will do, the first", x.least(0, 0), 1);
        PinnedToFit tight = Due.made("r50 54 10;r50 50 90;p610;");
        Due.row(tight, 0, BYTES, 2, 2, 1, 6, 2, 1);
        due("SHOWN has less MINUTES than LET, the second", tight.least(0, 0), 2);
        Due.row(tight, 0, BYTES, 6, 2, 1, 2, 2, 1);
        due("SHOWN has less MINUTES than LET, the first", tight.least(0, 0), 1);
        tight.line(0, 0);
        tight.line(1, 30);
        Due.row(tight, 0, BYTES, 5, 0, 0);
        due("none, if UNDONE does as well", tight.least(0, 0), 0);
        x.row(0, BYTES, 0);
        due("no PINS", x.least(0, 0), 0);
        due("no PINS", x.least(0, 1), 3);
        DUE.same("least", Due.seen(x), before);
        due("what 2", x.least(0, 2), -1);
        due("what -1", x.least(0, -1), -1);
        rowsOfPinsRefused("least", 0);
        PinnedToFit used = one(61, 0, 0);
        used.keep(0, 1, 4, 9);
        for (int k = 0; k < 360; k++) {
            used.pin(0, 0);
        }
        used.line(1, 30);
        Due.row(used, 0, BYTES, 1, 9, 0, 1, 9, 0, 1, 9, 0, 0, 9, 0);
        due("MINUTES of the PINS, whatever there is", used.least(0, 0), 7);
    }

    private static int asked(PinnedToFit x, String call, int d) {
        return call.equals("least") ? x.least(d, 0) : call.equals("first") ? x.first(d) : x.orders(d, 0);
    }

    /** What all calls with a ROW of PINS refuse; sixPins is their answer with six. */
    private static void rowsOfPinsRefused(String call, int sixPins) {
        PinnedToFit x = Due.made("r50 54 00;r50 54 00;");
        for (int d : NO_SHELF) {
            due(call + "(" + d + ")", asked(x, call, d), -1);
        }
        due(call + " of nothing", asked(x, call, 0), -11);
        x.keep(0, 1, 0, 0);
        due(call + " of a PIN", asked(x, call, 0), -12);
        x.row(0, SHORTS, 3);
        due(call + " of shorts", asked(x, call, 0), -12);
        x.row(0, INTS, 4);
        due(call + " of ints", asked(x, call, 0), -12);
        int[][] wrong = {
            {0}, {0, 0}, {0, 0, 0, 0}, {8, 0, 0}, {-1, 0, 0}, {0, 10, 0}, {0, -1, 0}, {0, 0, 2}, {0, 0, -1},
            {0, 0, 0, 0, 0, 5}};
        for (int[] w : wrong) {
            Due.row(x, 0, BYTES, w);
            due(call + " of a wrong ROW", asked(x, call, 0), -13);
        }
        x.row(0, BYTES, 21);
        due(call + " of seven PINS", asked(x, call, 0), -13);
        x.row(0, BYTES, 18);
        due(call + " of six PINS", asked(x, call, 0), sixPins);
        x.put(0, 17, 2);
        due(call + " of six PINS with a wrong one", asked(x, call, 0), -13);
        due(call + " without RINGS", emptyWithPin(call), -13);
    }

    private static int emptyWithPin(String call) {
        PinnedToFit x = new PinnedToFit();
        x.row(0, BYTES, 3);
        return asked(x, call, 0);
    }

    /** Promise 12. */
    private static void first() {
        DUE.of(12, "the whole");
        PinnedToFit x = Due.made("r50 9 30;r50 54 00;");
        String before = Due.seen(x);
        Due.row(x, 0, BYTES, 2, 2, 0, 2, 1, 0, 2, 1, 0);
        due("the third", x.first(0), 2);
        Due.row(x, 0, BYTES, 5, 0, 0, 6, 1, 0);
        due("the first", x.first(0), 0);
        Due.row(x, 0, BYTES, 6, 1, 0, 5, 0, 1);
        due("none", x.first(0), -4);
        Due.row(x, 0, BYTES, 7, 1, 1, 3, 1, 1, 3, 9, 0);
        due("the second", x.first(0), 1);
        x.row(0, BYTES, 0);
        due("no PINS", x.first(0), -4);
        DUE.same("first", Due.seen(x), before);
        rowsOfPinsRefused("first", -4);
    }

    /** Promise 13. */
    private static void orders() {
        DUE.of(13, "the whole");
        PinnedToFit x = Due.made("r50 54 00;r50 52 20;");
        String before = Due.seen(x);
        Due.row(x, 0, BYTES, 6, 1, 1, 5, 0, 0, 0, 0, 0);
        due("UNDONE behind SHOWN", x.orders(0, 0), 3);
        due("LACKS behind them", x.orders(0, 1), 0);
        Due.row(x, 0, BYTES, 5, 0, 0, 0, 0, 0);
        due("never", x.orders(0, 0), 0);
        due("never", x.orders(0, 1), -4);
        Due.row(x, 0, BYTES, 0, 0, 0, 0, 0, 0, 0, 0, 0, 0, 0, 0, 0, 0, 0);
        due("PINS that are alike, by places", x.orders(0, 0), 120);
        Due.row(x, 0, BYTES, 1, 0, 1);
        due("one", x.orders(0, 0), 1);
        x.row(0, BYTES, 0);
        due("no PINS", x.orders(0, 0), 1);
        due("no PINS", x.orders(0, 1), x.lacks());
        DUE.same("orders", Due.seen(x), before);
        PinnedToFit wide = one(95, 9, 0);
        Due.row(wide, 0, BYTES, 2, 9, 0, 1, 9, 0);
        due("both orders", wide.orders(0, 0), 2);
        due("99 less 9, when it is let out first", wide.orders(0, 1), 90 - 50 - 8);
        due("what 2", x.orders(0, 2), -1);
        due("what -1", x.orders(0, -1), -1);
        rowsOfPinsRefused("orders", -2);
    }

    /** Promise 14. */
    private static void hem() {
        DUE.of(14, "the whole");
        int[][] calls = {
            {50, 5, 2, 54}, {50, 5, 0, 50}, {99, 99, 20, 99}, {1, 99, 20, 1}, {10, 10, 3, 13}, {60, 99, 1, 99},
            {2, 50, 3, 6}, {9, 0, 20, 9}, {2, 99, 1, 3},
            {0, 1, 1, -1}, {100, 1, 1, -1}, {1, -1, 1, -1}, {1, 100, 1, -1}, {1, 1, -1, -1}, {1, 1, 21, -1}};
        for (int[] c : calls) {
            due("hem(" + c[0] + ", " + c[1] + ", " + c[2] + ")", new PinnedToFit().hem(c[0], c[1], c[2]), c[3]);
        }
    }

    /** Promise 15. */
    private static void darts() {
        DUE.of(15, "the whole");
        int[][] calls = {
            {2, 3, 4, 6, 1}, {2, 3, 4, 5, 0}, {0, 1, 0, 99, 1}, {0, 1, 1, 1, 0}, {99, 99, 1, 1, 1}, {3, 2, 2, 3, 0},
            {-1, 1, 1, 1, -1}, {100, 1, 1, 1, -1}, {1, 0, 1, 1, -1}, {1, 100, 1, 1, -1}, {1, 1, -1, 1, -1},
            {1, 1, 100, 1, -1}, {1, 1, 1, 0, -1}, {1, 1, 1, 100, -1}};
        for (int[] c : calls) {
            due("darts(" + c[0] + ", " + c[1] + ", " + c[2] + ", " + c[3] + ")",
                new PinnedToFit().darts(c[0], c[1], c[2], c[3]), c[4]);
        }
    }

    /** Promise 16. */
    private static void stripes() {
        DUE.of(16, "the whole");
        int[][] calls = {
            {4, 1, 6, 3, 9}, {4, 1, 6, 2, -4}, {1, 0, 1, 0, 0}, {60, 59, 60, 59, 59}, {60, 59, 59, 58, 3539},
            {5, 4, 1, 0, 4}, {1, 0, 7, 6, 6}, {6, 3, 4, 1, 9}, {60, 0, 59, 58, 60 * 58},
            {0, 0, 1, 0, -1}, {61, 0, 1, 0, -1}, {1, 0, 0, 0, -1}, {1, 0, 61, 0, -1}, {4, 4, 1, 0, -1},
            {4, -1, 1, 0, -1}, {1, 0, 4, 4, -1}, {1, 0, 4, -1, -1}};
        for (int[] c : calls) {
            due("stripes(" + c[0] + ", " + c[1] + ", " + c[2] + ", " + c[3] + ")",
                new PinnedToFit().stripes(c[0], c[1], c[2], c[3]), c[4]);
        }
    }

    /** Promise 17. */
    private static void measures() {
        DUE.of(17, "the whole");
        PinnedToFit x = Due.made("r30 1 00;r20 1 00;r50 1 00;");
        Due.row(x, 0, SHORTS, 0, 1, 10, 2, 0, 20, 1, 2, -30);
        due("all are so", x.measures(0, 0), -4);
        due("none is wrong", x.measures(0, 1), -4);
        Due.row(x, 0, SHORTS, 0, 1, 10, 2, 0, 21, 1, 2, 30);
        due("the second", x.measures(0, 0), 3);
        due("RING 2 in both", x.measures(0, 1), 2);
        Due.row(x, 0, SHORTS, 2, 1, 0, 2, 1, 30, 0, 1, 10);
        due("the first", x.measures(0, 0), 0);
        due("of several the least", x.measures(0, 1), 1);
        Due.row(x, 0, SHORTS, 0, 1, 11, 2, 0, 0, 1, 2, -30);
        due("RING 0 in both", x.measures(0, 1), 0);
        Due.row(x, 0, SHORTS, 0, 1, 32767, 2, 1, -32768);
        due("any short", x.measures(0, 1), 1);
        x.row(0, SHORTS, 0);
        due("no measures", x.measures(0, 0), -4);
        due("no measures", x.measures(0, 1), -4);
        int[][] wrong = {{0}, {0, 1}, {0, 1, 10, 0}, {0, 0, 0}, {0, 3, 0}, {3, 0, 0}, {-1, 0, 0}, {0, -1, 0},
            {0, 1, 10, 1, 1, 0}};
        for (int[] w : wrong) {
            Due.row(x, 0, SHORTS, w);
            due("not as told", x.measures(0, 0), -13);
        }
        due("what 2", x.measures(0, 2), -1);
        due("what -1", x.measures(0, -1), -1);
        for (int d : NO_SHELF) {
            due("measures(" + d + ", 0)", x.measures(d, 0), -1);
        }
        due("nothing", x.measures(1, 0), -11);
        x.keep(1, 1, 0, 0);
        due("a PIN", x.measures(1, 0), -12);
        x.row(1, BYTES, 3);
        due("bytes", x.measures(1, 0), -12);
        x.row(1, INTS, 3);
        due("ints", x.measures(1, 0), -12);
    }

    /** Promise 18. */
    private static void sizes() {
        DUE.of(18, "the whole");
        PinnedToFit x = new PinnedToFit();
        Due.row(x, 0, BYTES, 40, 30, 50);
        Due.row(x, 1, BYTES, 29, 30, 38, 49, 50, 9);
        due("how many have none", x.sizes(0, 1, 0), 1);
        due("SPARE", x.sizes(0, 1, 1), 0 + 9 + 1 + 0 + 20);
        due("ONE MORE for the one without", x.sizes(0, 1, 2), 51);
        x.line(0, 3);
        due("TIGHT counts", x.sizes(0, 1, 0), 2);
        due("TIGHT counts", x.sizes(0, 1, 1), 8 + 7 + 9 + 18);
        x.line(0, 0);
        Due.row(x, 1, BYTES, 30, 21, 25);
        due("none is without", x.sizes(0, 1, 0), 0);
        due("ONE MORE with the least SPARE: 25 spares 9, 21 too", x.sizes(0, 1, 2), 25);
        Due.row(x, 1, BYTES, 30, 40);
        due("of several the least", x.sizes(0, 1, 2), 1);
        x.line(0, 1);
        Due.row(x, 0, BYTES, 1);
        Due.row(x, 1, BYTES, 98);
        due("the greatest size", x.sizes(0, 1, 2), 99);
        x.line(0, 0);
        Due.row(x, 0, BYTES, 2);
        Due.row(x, 1, BYTES, 1);
        due("the least GIRTH spares 1", x.sizes(0, 1, 1), 1);
        due("the least size as one more", x.sizes(0, 1, 2), 1);
        x.line(0, 1);
        Due.row(x, 0, BYTES, 99);
        Due.row(x, 1, BYTES, 99, 98);
        due("99 and TIGHT is too much", x.sizes(0, 1, 0), 1);
        due("none is ever enough", x.sizes(0, 1, 2), 1);
        due("the same ROW twice", x.sizes(0, 0, 0), 1);
        sizesRefused(x);
    }

    private static void sizesRefused(PinnedToFit x) {
        for (int d : NO_SHELF) {
            due("sizes(" + d + ", 1, 0)", x.sizes(d, 1, 0), -1);
            due("sizes(0, " + d + ", 0)", x.sizes(0, d, 0), -1);
            due("sizes(2, " + d + ", 0)", x.sizes(2, d, 0), -1);
        }
        due("what 3", x.sizes(2, 2, 3), -1);
        due("what -1", x.sizes(0, 1, -1), -1);
        due("nothing in d", x.sizes(2, 1, 0), -11);
        due("nothing in e", x.sizes(0, 2, 0), -11);
        x.keep(3, 1, 0, 0);
        due("a PIN in d, nothing in e", x.sizes(3, 2, 0), -12);
        due("a PIN in e", x.sizes(0, 3, 0), -12);
        x.row(3, SHORTS, 1);
        due("shorts", x.sizes(3, 1, 0), -12);
        Due.row(x, 3, BYTES, 1, 1, 1, 1, 1, 1, 1);
        due("seven sizes, nothing in e", x.sizes(3, 2, 0), -13);
        due("seven girls", x.sizes(0, 3, 0), 0);
        int[][] wrong = {{}, {0}, {100}, {1, -1}};
        for (int[] w : wrong) {
            Due.row(x, 3, BYTES, w);
            due("sizes not as told", x.sizes(3, 1, 0), -13);
            due("GIRTHS not as told", x.sizes(0, 3, 0), -13);
        }
        int[] girls = new int[21];
        java.util.Arrays.fill(girls, 9);
        Due.row(x, 3, BYTES, girls);
        due("21 girls", x.sizes(0, 3, 0), -13);
        Due.row(x, 3, BYTES, java.util.Arrays.copyOf(girls, 20));
        due("20 girls", x.sizes(0, 3, 1), 20 * (99 - 10));
        Due.row(x, 3, BYTES, 1, 2, 3, 4, 5, 6);
        due("six sizes", x.sizes(3, 0, 0), 1);
    }

    /** Promise 19. */
    private static void old() {
        DUE.of(19, "the whole");
        PinnedToFit x = Due.made("r1 40 50;r1 30 00;r1 30 90;");
        int[][] told = {
            {45, 1}, {46, 0}, {45, 39, 30, 3}, {30, 39, 45, 3}, {45, 45, 1}, {39, 39, 39, 2}, {1, 1, 1, 1, 3},
            {31, 31, 31, 1, 3}, {99, 99, 99, 99, 99, 99, 0}, {30, 30, 30, 99, 3}, {40, 40, 30, 30, 3}};
        for (int[] t : told) {
            Due.row(x, 0, BYTES, java.util.Arrays.copyOf(t, t.length - 1));
            due("old", x.old(0), t[t.length - 1]);
        }
        int[][] wrong = {{}, {0}, {100}, {1, -1}, {1, 1, 1, 1, 1, 1, 1}};
        for (int[] w : wrong) {
            Due.row(x, 0, BYTES, w);
            due("not as told", x.old(0), -13);
        }
        for (int d : NO_SHELF) {
            due("old(" + d + ")", x.old(d), -1);
        }
        due("nothing", x.old(1), -11);
        x.keep(1, 1, 0, 0);
        due("a PIN", x.old(1), -12);
        Due.row(x, 1, INTS, 1);
        due("ints", x.old(1), -12);
        PinnedToFit none = new PinnedToFit();
        Due.row(none, 0, BYTES, 1);
        due("no RINGS", none.old(0), 0);
    }

    /** Promise 20. */
    private static void shape() {
        DUE.of(20, "the whole");
        PinnedToFit x = Due.made("r50 54 99;r99 1 00;");
        due("shape(0, 0)", x.shape(0, 0), 3);
        due("shape(0, 9)", x.shape(0, 9), 12);
        due("shape(1, 2)", x.shape(1, 2), -97);
        x.line(0, 9);
        due("TIGHT 9", x.shape(1, 0), -107);
        due("f 10", x.shape(0, 10), FAR);
        due("f -1", x.shape(0, -1), FAR);
        due("no such RING", x.shape(2, 0), FAR);
        due("no such RING", x.shape(-1, 0), FAR);
    }

    /** Promise 21; the numbers are drawn by hand. */
    private static void seeded() {
        DUE.of(21, "the whole");
        PinnedToFit x = Due.made("t2;l9;r30 32 42;r24 24 90;r36 50 05;r20 19 00;");
        String before = Due.seen(x);
        due("LACKS", x.seeded(10, 5, 0), 55);
        due("how many", x.seeded(10, 5, 1), 5);
        PinnedToFit one = one(54, 0, 0);
        // Seed 0 becomes 12345, -1406932606, 654583775: RING 0, KIND 4 (11300 modulo 8), FIGURE 8 (9988 modulo 10).
        due("SET 8", one.seeded(1, 0, 1), 1);
        due("SET 8: 12 above LOOSE", one.seeded(1, 0, 0), 12);
        DUE.same("seeded", Due.seen(x), before);
        due("no times", x.seeded(0, 0, 0), -1);
        due("31 times", x.seeded(31, 0, 0), -1);
        due("30 times", x.seeded(30, -2147483648, 1) >= 0 ? 1 : 0, 1);
        due("what 2", x.seeded(1, 0, 2), -1);
        due("what -1", x.seeded(1, 0, -1), -1);
        due("no RINGS", new PinnedToFit().seeded(1, 0, 0), -3);
        due("no RINGS, what 2", new PinnedToFit().seeded(1, 0, 2), -1);
    }

    /** Promise 22. */
    private static void judge() {
        DUE.of(22, "the whole");
        PinnedToFit x = Due.made("r50 54 04;r50 40 00;");
        int[][] told = {{4, -10, -4}, {4, -9, 1}, {3, -10, 0}, {4, 1}, {0}, {4, -10, 0, 2}, {-128, -10, -4},
            {4, -128, -4}, {-128, -128, -128, 2}, {-128, 1}, {-127, -10, 0}};
        for (int[] t : told) {
            Due.row(x, 0, BYTES, java.util.Arrays.copyOf(t, t.length - 1));
            due("judge", x.judge(0, 0), t[t.length - 1]);
        }
        int[][] moves = {{4, -10}, {0, -10}, {0, -10}, {3, -10}};
        for (int move = 0; move < 4; move++) {
            Due.row(x, 0, INTS, moves[move]);
            due("judge in MOVE " + move, x.judge(move, 0), -4);
        }
        Due.row(x, 0, SHORTS, -32768, -10);
        due("the least short", x.judge(0, 0), -4);
        Due.row(x, 0, SHORTS, -128, -10);
        due("not the least short", x.judge(0, 0), 0);
        Due.row(x, 0, INTS, 4, -2147483648);
        due("the least int", x.judge(0, 0), -4);
        Due.row(x, 0, INTS, 4, -32768);
        due("not the least int", x.judge(0, 0), 1);
        due("no such MOVE", x.judge(4, 0), -1);
        due("no such MOVE", x.judge(-1, 0), -1);
        for (int d : NO_SHELF) {
            due("judge(0, " + d + ")", x.judge(0, d), -1);
        }
        due("nothing", x.judge(0, 1), -11);
        x.keep(1, 1, 0, 0);
        due("a PIN", x.judge(0, 1), -12);
        PinnedToFit none = new PinnedToFit();
        none.row(0, BYTES, 0);
        due("no RINGS, no elements", none.judge(0, 0), -4);
        none.row(0, BYTES, 1);
        due("no RINGS, one element", none.judge(0, 0), 0);
    }

    /** Promises 23 and 24. */
    private static void imageAndRestore() {
        DUE.of(24, "the whole");
        PinnedToFit x = Due.made("t2;l9;r50 54 94;p610;");
        String then = Due.seen(x);
        due("no image", x.restore(), -3);
        due("image", x.image(), 1);
        Due.read(x, "t0;l0;r1 1 11;p500;p120;p400;");
        x.keep(0, 1, 3, 3);
        String later = Due.seen(x);
        due("restore", x.restore(), 1);
        DUE.same("restore", Due.seen(x), then);
        due("SHELVES stay", x.toss(0), 103);
        Due.read(x, "t0;l0;r1 1 11;p500;p120;p400;");
        DUE.same("the same once more", Due.seen(x), later);
        due("restored twice", x.restore(), 1);
        DUE.same("restored twice", Due.seen(x), then);
        Due.read(x, "r1 1 11;");
        due("another image", x.image(), 2);
        String two = Due.seen(x);
        x.line(0, 9);
        due("another image restored", x.restore(), 2);
        DUE.same("another image restored", Due.seen(x), two);
        DUE.of(23, "the whole");
        PinnedToFit empty = new PinnedToFit();
        due("image of nothing", empty.image(), 0);
        Due.read(empty, "r1 1 11;");
        due("nothing restored", empty.restore(), 0);
        DUE.same("nothing restored", Due.seen(empty), "0 0 0 1 8 0 0 ");
    }

    /** Promise 25. */
    private static void count() {
        DUE.of(25, "the whole");
        PinnedToFit x = Due.made("r50 54 94;r50 60 11;t3;l7;p610;p120;");
        int[] want = {2, 1, 5, 3, 7, 10, 113};
        for (int what = 0; what < 7; what++) {
            due("count(" + what + ")", x.count(what), want[what]);
        }
        due("count(7)", x.count(7), -1);
        due("count(-1)", x.count(-1), -1);
    }

    /** Promise 26. */
    private static void keep() {
        DUE.of(26, "the whole");
        PinnedToFit x = new PinnedToFit();
        for (int d : NO_SHELF) {
            due("keep(" + d + ", 0, 0, 0)", x.keep(d, 0, 0, 0), -1);
            due("keep(" + d + ", 1, 0, 0)", x.keep(d, 1, 0, 0), -1);
        }
        due("a PIN", x.keep(7, 1, 7, 9), 0);
        int[][] wrong = {{2, 0, 0}, {-1, 0, 0}, {1, 8, 0}, {1, -1, 0}, {1, 0, 10}, {1, 0, -1}};
        for (int[] w : wrong) {
            due("a wrong keep", x.keep(7, w[0], w[1], w[2]), -1);
        }
        due("the PIN stays", x.minutes(7), 14);
        due("nothing, the others do not matter", x.keep(7, 0, 99, -99), 0);
        due("nothing", x.minutes(7), -11);
        x.row(7, BYTES, 3);
        due("a PIN in place of a ROW", x.keep(7, 1, 0, 1), 0);
        due("a PIN in place of a ROW", x.minutes(7), 1);
        due("no ROW any more", x.put(7, 0, 0), -12);
    }

    /** Promise 27. */
    private static void row() {
        DUE.of(27, "the whole");
        PinnedToFit x = new PinnedToFit();
        due("row(0, 0, 100)", x.row(0, BYTES, 100), 0);
        due("its last element", x.element(0, 99), 0);
        due("row(0, 2, 0)", x.row(0, INTS, 0), 0);
        due("no element", x.put(0, 0, 0), -13);
        Due.row(x, 0, SHORTS, 5, 6, 7);
        due("a ROW anew", x.row(0, SHORTS, 3), 0);
        due("0 at first", x.element(0, 1), 0);
        x.put(0, 1, 9);
        int[][] wrong = {{0, 101, -1}, {3, 1, -1}, {-1, 1, -1}, {0, -1, -14}, {2, -2147483648, -14}, {3, -1, -1}};
        for (int[] w : wrong) {
            due("row(0, " + w[0] + ", " + w[1] + ")", x.row(0, w[0], w[1]), w[2]);
        }
        for (int d : NO_SHELF) {
            due("row(" + d + ", 0, 1)", x.row(d, 0, 1), -1);
            due("row(" + d + ", 0, -1)", x.row(d, 0, -1), -1);
        }
        due("the ROW stays", x.element(0, 1), 9);
    }

    /** Promise 28. */
    private static void put() {
        DUE.of(28, "the whole");
        PinnedToFit x = new PinnedToFit();
        int[] v = {127, 128, 255, 256, 32767, 32768, 65535, 65536, -129, -32769, 2147483647, -2147483648};
        for (int sort = 0; sort < 3; sort++) {
            x.row(0, sort, 2);
            for (int k = 0; k < v.length; k++) {
                due("put", x.put(0, 1, v[k]), 0);
                long want = sort == BYTES ? (byte) v[k] : sort == SHORTS ? (short) v[k] : v[k];
                due("lowest bits of " + v[k] + " in sort " + sort, x.element(0, 1), want);
                due("the other one", x.element(0, 0), 0);
            }
        }
        due("put(0, 2, 0)", x.put(0, 2, 0), -13);
        due("put(0, -1, 0)", x.put(0, -1, 0), -13);
        due("nothing", x.put(1, 0, 0), -11);
        x.keep(1, 1, 0, 0);
        due("a PIN", x.put(1, 0, 0), -12);
        for (int d : NO_SHELF) {
            due("put(" + d + ", 0, 0)", x.put(d, 0, 0), -1);
        }
    }

    /** 0: an answer; 1: IllegalArgumentException; 2: IllegalStateException. */
    private static int thrown(PinnedToFit x, int d, int i) {
        try {
            x.element(d, i);
            return 0;
        } catch (IllegalArgumentException noShelf) {
            return 1;
        } catch (IllegalStateException noPlace) {
            return 2;
        }
    }

    /** Promise 29. */
    private static void element() {
        DUE.of(29, "the whole");
        PinnedToFit x = new PinnedToFit();
        Due.row(x, 0, INTS, 5, -6);
        due("element(0, 0)", x.element(0, 0), 5);
        due("element(0, 1)", x.element(0, 1), -6);
        due("element(0, 2)", thrown(x, 0, 2), 2);
        due("element(0, -1)", thrown(x, 0, -1), 2);
        due("nothing", thrown(x, 1, 0), 2);
        x.keep(1, 1, 0, 0);
        due("a PIN", thrown(x, 1, 0), 2);
        for (int d : NO_SHELF) {
            due("element(" + d + ", 0)", thrown(x, d, 0), 1);
            due("element(" + d + ", -1)", thrown(x, d, -1), 1);
        }
        Due.row(x, 2, INTS, 1, 2, 3);
        x.row(2, INTS, 1);
        due("a place of an earlier ROW", thrown(x, 2, 1), 2);
    }

    private static void dueRow(PinnedToFit x, String call, int d, int... want) {
        for (int i = 0; i < want.length; i++) {
            due(call + ", element " + i, x.element(d, i), want[i]);
        }
    }

    /** Promise 30. */
    private static void copy() {
        DUE.of(30, "the whole");
        PinnedToFit x = new PinnedToFit();
        Due.row(x, 0, BYTES, 1, 2, 3, 4, 5);
        x.row(1, BYTES, 4);
        due("copy", x.copy(0, 2, 1, 1, 3), 3);
        dueRow(x, "copy", 1, 0, 3, 4, 5);
        dueRow(x, "what is read stays", 0, 1, 2, 3, 4, 5);
        due("over itself, down", x.copy(0, 0, 0, 1, 4), 4);
        dueRow(x, "over itself, down", 0, 1, 1, 2, 3, 4);
        due("over itself, up", x.copy(0, 1, 0, 0, 4), 4);
        dueRow(x, "over itself, up", 0, 1, 2, 3, 4, 4);
        due("none", x.copy(0, 5, 1, 4, 0), 0);
        int[][] wrong = {{0, 0, -1}, {-1, 0, 1}, {0, -1, 1}, {3, 0, 3}, {0, 2, 3}, {6, 0, 0}, {0, 5, 0},
            {2147483647, 0, 2147483647}, {1, 1, 2147483647}, {-2147483648, 0, 1}, {0, 0, -2147483648}};
        for (int[] w : wrong) {
            due("copy(0, " + w[0] + ", 1, " + w[1] + ", " + w[2] + ")", x.copy(0, w[0], 1, w[1], w[2]), -13);
        }
        due("nothing", x.copy(0, 0, 2, 0, 1), -11);
        due("nothing", x.copy(2, 0, 0, 0, 1), -11);
        x.keep(3, 1, 0, 0);
        due("a PIN", x.copy(0, 0, 3, 0, 1), -12);
        due("a PIN", x.copy(3, 0, 0, 0, 1), -12);
        due("two PINS", x.copy(3, 0, 3, 0, 1), -12);
        due("a PIN and nothing", x.copy(3, 0, 2, 0, 1), -11);
        x.row(4, SHORTS, 4);
        due("another SORT", x.copy(0, 0, 4, 0, 9), -12);
        for (int d : NO_SHELF) {
            due("copy(" + d + ", ..)", x.copy(d, 0, 2, 0, 1), -1);
            due("copy(.., " + d + ", ..)", x.copy(2, 0, d, 0, 1), -1);
        }
        dueRow(x, "refused copies", 1, 0, 3, 4, 5);
    }

    /** Promise 31. */
    private static void minutes() {
        DUE.of(31, "the whole");
        PinnedToFit x = new PinnedToFit();
        for (int f = 0; f < 10; f++) {
            int[] minutes = {1, 1 + f, 1 + 2 * f, 3 + 3 * f, 10 + 2 * f, 0, 1 + f, 5 + f};
            for (int kind = 0; kind < 8; kind++) {
                x.keep(0, 1, kind, f);
                due("minutes of " + kind + ", " + f, x.minutes(0), minutes[kind]);
            }
        }
        for (int d : NO_SHELF) {
            due("minutes(" + d + ")", x.minutes(d), -1);
        }
        due("minutes of nothing", x.minutes(1), -11);
        x.row(1, BYTES, 0);
        due("minutes of a ROW", x.minutes(1), -12);
    }

    /** Promise 32. */
    private static void toss() {
        DUE.of(32, "the whole");
        PinnedToFit x = new PinnedToFit();
        for (int f = 0; f < 10; f++) {
            int[] failures = {f, f, f, 100 + f, 210 + 2 * f, -15, f, f};
            for (int kind = 0; kind < 8; kind++) {
                x.keep(0, 1, kind, f);
                due("toss of " + kind + ", " + f, x.toss(0), f == 0 ? -15 : failures[kind]);
            }
        }
        for (int d : NO_SHELF) {
            due("toss(" + d + ")", x.toss(d), -1);
        }
        due("toss of nothing", x.toss(1), -11);
        x.row(1, BYTES, 0);
        due("toss of a ROW", x.toss(1), -12);
    }

    private static void refusedCallsChangeNothing() {
        DUE.of(30, "a refused call changes nothing");
        PinnedToFit x = Due.made("t2;l9;r50 54 94;r50 54 00;p610;");
        Due.row(x, 0, BYTES, 1, 2, 3);
        x.keep(1, 1, 7, 1);
        String before = Due.seen(x);
        x.dress(0);
        x.pin(1, 0);
        x.pin(1, 2);
        x.line(0, 10);
        x.row(0, 0, 101);
        x.row(0, 0, -1);
        x.keep(0, 2, 0, 0);
        x.copy(0, 1, 0, 0, 3);
        x.restore();
        DUE.same("refused calls", Due.seen(x), before);
        dueRow(x, "refused calls", 0, 1, 2, 3);
    }
}

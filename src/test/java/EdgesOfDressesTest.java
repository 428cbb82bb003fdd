import java.util.function.IntUnaryOperator;

/** The boundary cases of promises 1 to 9, sentence by sentence: new objects, texts, rings, lines, pins, ease. */
public final class EdgesOfDressesTest {
    private static final int LEAST = Integer.MIN_VALUE;
    private static final int MOST = Integer.MAX_VALUE;
    private static final int FAR = -1000000001;
    private static final String SIX = "r1 1 00;r1 1 00;r1 1 00;r1 1 00;r1 1 00;r1 1 00;";

    private static final Due DUE = new Due();

    public static void main(String[] args) {
        newObject();
        dressRefusals();
        dressNumbers();
        dressDigits();
        dressForm();
        dressFaults();
        dressFull();
        ring();
        line();
        mayRefusals();
        mayEachKind();
        pinTakenAndLet();
        pinTurnedSetAndLast();
        pinHoles();
        pinMinutes();
        pinRefusals();
        easeOfMoves();
        easeRefusals();
        fit();
        lacks();
        DUE.end(1, 9);
    }

    private static void due(String call, long got, long want) {
        DUE.is(call, got, want);
    }

    /** A new object answers this to the text; with a fault it stays as it was. */
    private static void reads(String text, int want) {
        PinnedToFit x = new PinnedToFit();
        due("dress " + text, Due.read(x, text), want);
        if (want < 0) {
            DUE.same("dress " + text, Due.seen(x), "0 0 0 1 8 0 0 ");
        }
    }

    /** What is asked with a number that is no shelf. */
    private static void refusesNoShelf(String call, IntUnaryOperator on) {
        for (int d : new int[] {-1, 8, LEAST, MOST}) {
            due(call + " of shelf " + d, on.applyAsInt(d), -1);
        }
    }

    private static PinnedToFit one(int width, int kept) {
        return Due.made("r50 " + width + " " + kept + "0;");
    }

    private static void left(String call, PinnedToFit x, String want) {
        DUE.same(call, Due.seen(x), want);
    }

    private static void newObject() {
        PinnedToFit x = new PinnedToFit();
        DUE.of(1, "No RINGS");
        due("count(0)", x.count(0), 0);
        due("ring(0, 0)", x.ring(0, 0), -1);
        due("all KEPT", x.count(5), 0);
        due("all WIDTHS", x.count(6), 0);
        due("lacks", x.lacks(), 0);
        DUE.of(1, "TIGHT (1 at first)");
        due("count(3)", x.count(3), 1);
        DUE.of(1, "LOOSE (8 at first)");
        due("count(4)", x.count(4), 8);
        DUE.of(1, "HOLES (0 at first)");
        due("count(1)", x.count(1), 0);
        DUE.of(1, "MINUTES (0 at first)");
        due("count(2)", x.count(2), 0);
        DUE.of(1, "SHELVES 0 .. 7 each hold nothing (at first)");
        for (int d = 0; d < 8; d++) {
            due("minutes(" + d + ")", x.minutes(d), -11);
        }
        due("minutes(8)", x.minutes(8), -1);
        DUE.of(1, "a new object has nothing of another one");
        PinnedToFit other = Due.made("t9;l9;r50 54 90;p610;");
        other.keep(0, 1, 1, 1);
        other.image();
        left("another object", new PinnedToFit(), "0 0 0 1 8 0 0 ");
        due("restore", new PinnedToFit().restore(), -3);
        due("minutes(0)", new PinnedToFit().minutes(0), -11);
    }

    private static void dressRefusals() {
        PinnedToFit x = new PinnedToFit();
        DUE.of(2, "-1: no such SHELF");
        refusesNoShelf("dress", x::dress);
        DUE.of(2, "-11: nothing is held");
        due("dress(0)", x.dress(0), -11);
        DUE.of(2, "-12 (no ROW of bytes)");
        x.keep(0, 1, 0, 0);
        due("dress of a PIN", x.dress(0), -12);
        Due.row(x, 0, 1, 't', '1', ';');
        due("dress of shorts", x.dress(0), -12);
        Due.row(x, 0, 2, 't', '1', ';');
        due("dress of ints", x.dress(0), -12);
        Due.row(x, 0, 0, 't', '1', ';');
        due("dress of bytes", x.dress(0), 1);
        DUE.of(2, "what is put in keeps its lowest bits");
        Due.row(x, 0, 0, 't' + 256, '3' - 256, ';' + 65536);
        due("dress of lowest bits", x.dress(0), 1);
        due("TIGHT", x.count(3), 3);
        DUE.of(2, "the ROW that is read stays on its SHELF");
        for (int i = 0; i < 3; i++) {
            due("element(0, " + i + ")", x.element(0, i), "t3;".charAt(i));
        }
        DUE.of(2, "a refused call changes nothing");
        x.put(0, 2, ':');
        String before = Due.all(x);
        due("a fault", x.dress(0), -1002);
        due("nothing", x.dress(1), -11);
        DUE.same("refused", Due.all(x), before);
    }

    private static void dressNumbers() {
        DUE.of(2, "GIRTH of the body (1 .. 99 eighths)");
        reads("r0 1 00;", -2000);
        due("r1", Due.made("r1 50 00;").ring(0, 0), 1);
        due("r99", Due.made("r99 50 00;").ring(0, 0), 99);
        reads("r100 1 00;", -1003);
        reads("r-1 1 00;", -1001);
        DUE.of(2, "WIDTH of the dress there (1 .. 99)");
        reads("r1 0 00;", -2000);
        due("WIDTH 1", Due.made("r50 1 00;").ring(0, 1), 1);
        due("WIDTH 99", Due.made("r50 99 00;").ring(0, 1), 99);
        reads("r1 100 00;", -1005);
        reads("r1 -1 00;", -1003);
        DUE.of(2, "KEPT (0 .. 9)");
        due("KEPT 0", Due.made("r1 1 09;").ring(0, 2), 0);
        due("KEPT 9", Due.made("r1 1 90;").ring(0, 2), 9);
        reads("r1 1 -10;", -1005);
        DUE.of(2, "GIVE (0 .. 9)");
        due("GIVE 0", Due.made("r1 1 90;").ring(0, 3), 0);
        due("GIVE 9", Due.made("r1 1 09;").ring(0, 3), 9);
        reads("r1 1 010;", -1007);
        DUE.of(2, "TIGHT (0 .. 9)");
        due("t0", Due.made("t0;").count(3), 0);
        due("t9", Due.made("t9;").count(3), 9);
        reads("t10;", -1002);
        reads("t-1;", -1001);
        DUE.of(2, "LOOSE (0 .. 30)");
        due("l0", Due.made("l0;").count(4), 0);
        due("l30", Due.made("l30;").count(4), 30);
        reads("l31;", -2000);
        reads("l99;", -2000);
        reads("l100;", -1003);
        reads("l-1;", -1001);
        DUE.of(2, "a KIND (0 .. 7)");
        reads("r50 54 90;p000;", 2);
        reads("r50 54 90;p700;", 2);
        reads("r50 54 90;p800;", -2010);
        reads("r50 54 90;p900;", -2010);
        DUE.of(2, "a FIGURE (0 .. 9)");
        due("FIGURE 0", Due.made("r50 54 90;p200;").ring(0, 2), 9);
        due("FIGURE 9", Due.made("r50 54 90;p290;").ring(0, 2), 0);
        DUE.of(2, "a RING that is there (0 .. how many there are less 1)");
        due("p at RING 5", Due.read(Due.made(SIX), "p005;"), 1);
        due("p at RING 6", Due.read(Due.made(SIX), "p006;"), -2000);
        reads("r1 1 00;p000;", 2);
        reads("r1 1 00;p001;", -2008);
        reads("r1 1 00;p009;", -2008);
        reads("p000;", -2000);
    }

    private static void dressDigits() {
        DUE.of(2, "GIRTH, WIDTH have 1 or 2 digits");
        reads("r 1 00;", -1001);
        reads("r1 1 00;", 1);
        reads("r10 10 00;", 1);
        reads("r101 1 00;", -1003);
        reads("r1  00;", -1003);
        reads("r1 101 00;", -1005);
        DUE.of(2, "KEPT, GIVE have a digit each");
        reads("r1 1 0;", -1006);
        reads("r1 1 ;", -1005);
        reads("r1 1 000;", -1007);
        reads("r1 1 0 0;", -1006);
        DUE.of(2, "TIGHT is a digit");
        reads("t;", -1001);
        reads("t00;", -1002);
        DUE.of(2, "LOOSE has 1 or 2 digits");
        reads("l;", -1001);
        reads("l1;", 1);
        reads("l10;", 1);
        reads("l101;", -1003);
        DUE.of(2, "KIND, FIGURE, RING have a digit each");
        reads("p;", -1001);
        reads("p1;", -1002);
        reads("p11;", -1003);
        reads("p1100;", -1004);
        reads("p1 10;", -1002);
        DUE.of(2, "no number 0 ahead of another digit");
        reads("r01 1 00;", -1002);
        reads("r00 1 00;", -1002);
        reads("r1 01 00;", -1004);
        reads("r1 00 00;", -1004);
        reads("l01;", -1002);
        reads("l00;", -1002);
        reads("l0;", 1);
        reads("r1 1 00;p000;t0;", 3);
    }

    private static void dressForm() {
        DUE.of(2, "at least one STATEMENT");
        reads("", -1000);
        reads(";", -1000);
        reads("t1;", 1);
        DUE.of(2, "STATEMENTS, each with ; behind");
        reads("t1", -1002);
        reads("t1;t2", -1005);
        reads("t1t2;", -1002);
        reads("t1;;", -1003);
        reads(";t1;", -1000);
        reads("t1,t2;", -1002);
        DUE.of(2, "the size, if it ends too early");
        String whole = "r12 34 56;t1;l23;l4;p012;r1 2 30;";
        for (int n = 0; n < whole.length(); n++) {
            if (n == 0 || whole.charAt(n - 1) != ';') {
                reads(whole.substring(0, n), -1000 - n);
            }
        }
        DUE.of(2, "the place of the first byte with which no DRESS can go on");
        for (int n = 0; n < whole.length(); n++) {
            for (char wrong : new char[] {'x', 'R', 0, 255, '/', ':', 1, 128 + '1'}) {
                reads(whole.substring(0, n) + wrong + whole.substring(n + 1), -1000 - n);
            }
        }
        for (String letter : new String[] {"a", "q", "s", "u", "k", "m", "o", " ", "0", "T", "L", "P", "\n"}) {
            reads(letter, -1000);
            reads("t1;" + letter + "1;", -1003);
        }
        DUE.of(2, "a blank between numbers");
        reads("r1,1 00;", -1002);
        reads("r1 1,00;", -1004);
        reads("r1\t1 00;", -1002);
        reads("r12 3400;", -1006);
        reads(" t1;", -1000);
        reads("t 1;", -1001);
        reads("t1 ;", -1002);
        reads("t1; t1;", -1003);
    }

    private static void dressFaults() {
        DUE.of(2, "kind 2: the place of the letter of the first STATEMENT that isn't as told");
        reads("t9;l31;r0 1 00;p999;", -2003);
        reads("t9;l9;r0 1 00;p999;l31;", -2006);
        reads("t9;p000;r1 1 00;", -2003);
        DUE.of(2, "no room");
        reads(SIX, 6);
        reads(SIX + "t9;r1 1 00;", -2051);
        due("a seventh RING", Due.read(Due.made(SIX), "t9;r1 1 00;"), -2003);
        DUE.of(2, "a PIN that MAY not be");
        reads("r50 5 30;p140;", 2);
        reads("r50 5 30;p150;", -2009);
        reads("r50 5 30;p230;", 2);
        reads("r50 5 30;p240;", -2009);
        reads("r50 5 30;p310;", -2009);
        reads("r50 5 30;p500;", -2009);
        reads("r50 5 30;p640;", -2009);
        reads("r50 5 30;r50 5 30;p710;", -2018);
        DUE.of(2, "kind 1 (of any place) goes ahead of kind 2");
        reads("l31;x", -1004);
        reads("r0 1 00;p999;t1", -1015);
        reads("l31;t1;t", -1008);
        reads("x;l31;", -1000);
        DUE.of(2, "each on what those ahead of it made");
        reads("r50 5 10;p210;p210;", -2014);
        reads("r50 5 10;p120;p210;p210;", 4);
        reads("r50 5 10;p500;p610;", -2009);
        reads("r50 5 10;p610;p500;", 3);
        reads("r50 5 10;p610;p500;p500;", -2019);
        reads("r50 5 10;p700;r50 5 10;", 3);
        reads("r50 5 10;r50 5 10;p700;", -2018);
        DUE.of(2, "with one nothing");
        PinnedToFit x = Due.made("t2;l9;r50 54 90;p610;");
        String before = Due.seen(x);
        due("fault behind all of it", Due.read(x, "t3;l8;r1 1 11;p610;p500;p300;p990;"), -2029);
        left("fault of kind 2", x, before);
        due("fault at the end", Due.read(x, "t3;l8;r1 1 11;p610;p500;p300"), -1028);
        left("fault of kind 1", x, before);
        DUE.of(2, "without FAULT all of it comes to what there is");
        due("no fault", Due.read(x, "t3;l8;r1 1 11;p610;p500;p300;"), 6);
        left("no fault", x, "50 56 7 0 ; 1 1 1 1 ; 2 1 7 3 8 8 57 ");
    }

    private static void dressFull() {
        DUE.of(2, "0 .. 100 elements: a text that fills the ROW");
        StringBuilder text = new StringBuilder("l10;");
        for (int k = 0; k < 32; k++) {
            text.append("t1;");
        }
        reads(text.toString(), 33);
        text.setCharAt(99, ':');
        reads(text.toString(), -1099);
        text.setCharAt(99, '1');
        reads(text.toString(), -1099);
        text.setCharAt(98, ';');
        reads(text.toString(), -1098);
        StringBuilder open = new StringBuilder("t1;");
        for (int k = 0; k < 32; k++) {
            open.append("t1;");
        }
        reads(open.toString(), 33);
        reads(open + "t", -1100);
        PinnedToFit full = Due.made(SIX);
        StringBuilder pins = new StringBuilder();
        for (int k = 0; k < 20; k++) {
            pins.append("p005;");
        }
        due("20 PINS", Due.read(full, pins.toString()), 20);
        due("their MINUTES", full.count(2), 20);
        pins.setCharAt(98, '6');
        due("the last of 20 is wrong", Due.read(full, pins.toString()), -2095);
        due("their MINUTES", full.count(2), 20);
    }

    private static void ring() {
        PinnedToFit x = Due.made("r11 12 13;r21 22 24;r31 32 35;r41 42 46;r51 52 57;r61 62 68;");
        DUE.of(3, "RINGS 0 .. 5: the first, the last, one too far");
        int[][] want = {{11, 12, 1, 3}, {21, 22, 2, 4}, {31, 32, 3, 5}, {41, 42, 4, 6}, {51, 52, 5, 7}, {61, 62, 6, 8}};
        for (int what = 0; what < 4; what++) {
            for (int ring = 0; ring < 6; ring++) {
                due("ring(" + ring + ", " + what + ")", x.ring(ring, what), want[ring][what]);
            }
            for (int ring : new int[] {-1, 6, 7, LEAST, MOST, 1 << 30, 1 << 29}) {
                due("ring(" + ring + ", " + what + ")", x.ring(ring, what), -1);
            }
        }
        DUE.of(3, "no such RING, as fewer are there");
        due("ring(1, 0)", one(54, 0).ring(1, 0), -1);
        due("ring(0, 0)", one(54, 0).ring(0, 0), 50);
        DUE.of(3, "GIRTH (what 0), WIDTH (1), KEPT (2), GIVE (3), and no other");
        for (int what : new int[] {-1, 4, LEAST, MOST}) {
            due("ring(0, " + what + ")", x.ring(0, what), -1);
            due("ring(5, " + what + ")", x.ring(5, what), -1);
        }
    }

    private static void line() {
        PinnedToFit x = new PinnedToFit();
        DUE.of(4, "TIGHT (0 .. 9): what it was");
        due("line(0, 9)", x.line(0, 9), 1);
        due("line(0, 0)", x.line(0, 0), 9);
        due("line(0, 1)", x.line(0, 1), 0);
        for (int v : new int[] {-1, 10, LEAST, MOST}) {
            due("line(0, " + v + ")", x.line(0, v), -1);
        }
        due("TIGHT stays", x.count(3), 1);
        DUE.of(4, "LOOSE (0 .. 30): what it was");
        due("line(1, 30)", x.line(1, 30), 8);
        due("line(1, 0)", x.line(1, 0), 30);
        due("line(1, 10)", x.line(1, 10), 0);
        for (int v : new int[] {-1, 31, LEAST, MOST}) {
            due("line(1, " + v + ")", x.line(1, v), -1);
        }
        due("LOOSE stays", x.count(4), 10);
        DUE.of(4, "TIGHT (what 0), LOOSE (1), and no other");
        for (int what : new int[] {-1, 2, LEAST, MOST}) {
            due("line(" + what + ", 1)", x.line(what, 1), -1);
        }
        left("refused lines", x, "0 0 0 1 10 0 0 ");
    }

    private static void mayRefusals() {
        PinnedToFit x = Due.made("r50 54 00;r50 54 00;");
        x.keep(0, 1, 0, 0);
        x.row(1, 0, 3);
        String before = Due.all(x);
        DUE.of(5, "-1: no such SHELF");
        refusesNoShelf("may", d -> x.may(d, 0));
        DUE.of(5, "-1: no such RING");
        for (int ring : new int[] {-1, 2, 6, LEAST, MOST}) {
            due("may(0, " + ring + ")", x.may(0, ring), -1);
        }
        due("may(0, 1)", x.may(0, 1), 1);
        DUE.of(5, "-11: nothing is held");
        due("may(2, 0)", x.may(2, 0), -11);
        DUE.of(5, "-12 (a ROW)");
        due("may(1, 0)", x.may(1, 0), -12);
        DUE.of(5, "of several refusals the first: -1, -11, -12");
        due("nothing, no such RING", x.may(2, 2), -1);
        due("a ROW, no such RING", x.may(1, 2), -1);
        due("no such SHELF, no such RING", x.may(8, 2), -1);
        DUE.of(5, "it changes nothing");
        DUE.same("may", Due.all(x), before);
    }

    private static void mayEachKind() {
        DUE.of(5, "PIN always");
        due("PIN 0", Due.allowed(one(1, 0), 0, 0, 0), 1);
        due("PIN 9", Due.allowed(one(1, 0), 0, 9, 0), 1);
        DUE.of(5, "TAKEN if WIDTH is above FIGURE");
        for (int f = 0; f < 10; f++) {
            due("WIDTH " + (f + 1) + ", TAKEN " + f, Due.allowed(one(f + 1, 0), 1, f, 0), 1);
            if (f > 0) {
                due("WIDTH " + f + ", TAKEN " + f, Due.allowed(one(f, 9), 1, f, 0), 0);
            }
        }
        DUE.of(5, "LET if KEPT is FIGURE or more");
        for (int f = 0; f < 10; f++) {
            due("KEPT " + f + ", LET " + f, Due.allowed(one(1, f), 2, f, 0), 1);
            if (f > 0) {
                due("KEPT " + (f - 1) + ", LET " + f, Due.allowed(one(99, f - 1), 2, f, 0), 0);
            }
        }
        PinnedToFit three = Due.made("r50 5 30;r50 4 00;r50 1 00;");
        DUE.of(5, "TURNED as a TAKEN");
        due("WIDTH 5, TURNED 4", Due.allowed(three, 3, 4, 0), 1);
        due("WIDTH 5, TURNED 5", Due.allowed(three, 3, 5, 0), 0);
        DUE.of(5, "TURNED if there is a RING below (the next one)");
        due("TURNED ahead of the last RING", Due.allowed(three, 3, 0, 1), 1);
        due("TURNED at the last RING", Due.allowed(three, 3, 0, 2), 0);
        due("TURNED at the only RING", Due.allowed(one(54, 0), 3, 0, 0), 0);
        due("TURNED at RING 5", Due.allowed(Due.made(SIX), 3, 0, 5), 0);
        due("TURNED at RING 4 of six", Due.allowed(Due.made(SIX), 3, 0, 4), 1);
        DUE.of(5, "SET always");
        due("SET 9", Due.allowed(one(1, 0), 4, 9, 0), 1);
        due("SET 9 at WIDTH 99", Due.allowed(one(99, 9), 4, 9, 0), 1);
        DUE.of(5, "UNDONE if HOLES are above 0");
        PinnedToFit holed = Due.made("r50 54 90;r50 1 00;");
        due("no HOLES", Due.allowed(holed, 5, 0, 0), 0);
        Due.pinned(holed, 6, 1, 0);
        due("one HOLE", Due.allowed(holed, 5, 9, 0), 1);
        due("one HOLE, another RING", Due.allowed(holed, 5, 0, 1), 1);
        Due.pinned(holed, 5, 0, 0);
        due("no HOLES any more", Due.allowed(holed, 5, 0, 0), 0);
        DUE.of(5, "SHOWN as a LET");
        due("KEPT 3, SHOWN 3", Due.allowed(three, 6, 3, 0), 1);
        due("KEPT 3, SHOWN 4", Due.allowed(three, 6, 4, 0), 0);
        due("KEPT 0, SHOWN 0", Due.allowed(three, 6, 0, 1), 1);
        DUE.of(5, "LAST as a TAKEN");
        due("WIDTH 9, LAST 8", Due.allowed(one(9, 0), 7, 8, 0), 1);
        due("WIDTH 9, LAST 9", Due.allowed(one(9, 0), 7, 9, 0), 0);
        DUE.of(5, "LAST if it is the last RING");
        due("LAST at the last RING", Due.allowed(three, 7, 0, 2), 1);
        due("LAST ahead of it", Due.allowed(three, 7, 0, 1), 0);
        due("LAST at RING 5", Due.allowed(Due.made(SIX), 7, 0, 5), 1);
        due("LAST at RING 4 of six", Due.allowed(Due.made(SIX), 7, 0, 4), 0);
    }

    private static void pinTakenAndLet() {
        DUE.of(6, "PIN nothing");
        PinnedToFit x = one(54, 3);
        Due.pinned(x, 0, 9, 0);
        left("PIN 9", x, "50 54 3 0 ; 1 0 1 1 8 3 54 ");
        DUE.of(6, "TAKEN: WIDTH FIGURE less, down to 1");
        PinnedToFit narrow = one(10, 0);
        Due.pinned(narrow, 1, 9, 0);
        due("WIDTH 10, TAKEN 9", narrow.ring(0, 1), 1);
        due("WIDTH 1, TAKEN 0", Due.pinned(narrow, 1, 0, 0) >= 0 ? narrow.ring(0, 1) : -1, 1);
        DUE.of(6, "TAKEN: KEPT half (cut) of FIGURE more");
        for (int f = 0; f < 10; f++) {
            PinnedToFit taken = one(54, 0);
            Due.pinned(taken, 1, f, 0);
            due("KEPT behind TAKEN " + f, taken.ring(0, 2), f / 2);
        }
        DUE.of(6, "TAKEN: KEPT 9 at most");
        for (int kept = 4; kept < 10; kept++) {
            PinnedToFit taken = one(54, kept);
            Due.pinned(taken, 1, 9, 0);
            due("KEPT " + kept + ", TAKEN 9", taken.ring(0, 2), kept < 5 ? kept + 4 : 9);
        }
        DUE.of(6, "LET: WIDTH FIGURE more (99 at most)");
        for (int width = 89; width < 100; width++) {
            PinnedToFit let = one(width, 9);
            Due.pinned(let, 2, 9, 0);
            due("WIDTH " + width + ", LET 9", let.ring(0, 1), width == 89 ? 98 : 99);
        }
        DUE.of(6, "LET: KEPT FIGURE less, down to 0");
        for (int f = 0; f < 10; f++) {
            PinnedToFit let = one(99, 9);
            Due.pinned(let, 2, f, 0);
            due("KEPT 9, LET " + f, let.ring(0, 2), 9 - f);
        }
        PinnedToFit last = one(50, 1);
        Due.pinned(last, 2, 1, 0);
        due("KEPT 1, LET 1", last.ring(0, 2), 0);
    }

    private static void pinTurnedSetAndLast() {
        DUE.of(6, "TURNED as a TAKEN, and WIDTH of the RING below is FIGURE more");
        PinnedToFit x = Due.made("r50 10 70;r50 40 10;r50 40 10;");
        Due.pinned(x, 3, 9, 0);
        left("TURNED 9", x, "50 1 9 0 ; 50 49 1 0 ; 50 40 1 0 ; 3 0 30 1 8 11 90 ");
        Due.pinned(x, 3, 3, 1);
        left("TURNED 3 ahead of the last RING", x, "50 1 9 0 ; 50 46 2 0 ; 50 43 1 0 ; 3 0 42 1 8 12 90 ");
        DUE.of(6, "TURNED: the RING below 99 at most");
        for (int width = 89; width < 100; width++) {
            PinnedToFit turned = Due.made("r50 50 00;r50 " + width + " 00;");
            Due.pinned(turned, 3, 9, 0);
            due("WIDTH " + width + " below TURNED 9", turned.ring(1, 1), width == 89 ? 98 : 99);
            due("WIDTH of its own", turned.ring(0, 1), 41);
        }
        DUE.of(6, "SET: WIDTH twice FIGURE more (99 at most)");
        for (int width = 80; width < 100; width++) {
            PinnedToFit set = one(width, 0);
            Due.pinned(set, 4, 9, 0);
            due("WIDTH " + width + ", SET 9", set.ring(0, 1), width == 80 ? 98 : 99);
        }
        DUE.of(6, "SET: KEPT stays");
        for (int kept = 0; kept < 10; kept += 9) {
            PinnedToFit set = one(50, kept);
            Due.pinned(set, 4, 9, 0);
            due("KEPT " + kept + ", SET 9", set.ring(0, 2), kept);
            due("SET 0", Due.pinned(set, 4, 0, 0) >= 0 ? set.ring(0, 1) : -1, 68);
        }
        DUE.of(6, "LAST as a TAKEN");
        PinnedToFit only = one(10, 6);
        Due.pinned(only, 7, 9, 0);
        left("LAST 9 at the only RING", only, "50 1 9 0 ; 1 0 14 1 8 9 1 ");
        DUE.of(6, "LAST: all RINGS above have WIDTH one less (1 at least)");
        PinnedToFit last = Due.made("r9 3 50;r9 2 40;r9 1 30;r9 99 20;r9 50 10;r9 50 00;");
        Due.pinned(last, 7, 0, 5);
        left("LAST 0", last,
            "9 2 5 0 ; 9 1 4 0 ; 9 1 3 0 ; 9 98 2 0 ; 9 49 1 0 ; 9 50 0 0 ; 6 0 5 1 8 15 201 ");
        Due.pinned(last, 7, 3, 5);
        left("LAST 3", last,
            "9 1 5 0 ; 9 1 4 0 ; 9 1 3 0 ; 9 97 2 0 ; 9 48 1 0 ; 9 47 1 0 ; 6 0 13 1 8 16 195 ");
    }

    /** An object with so many HOLES, and KEPT 9 at its RING. */
    private static PinnedToFit holed(int holes) {
        PinnedToFit x = one(50, 9);
        int more = holes;
        while (more > 0) {
            int figure = Math.min(9, more);
            Due.pinned(x, 6, figure, 0);
            for (int k = 0; k < 3; k++) {
                Due.pinned(x, 1, 9, 0);
            }
            Due.pinned(x, 4, 9, 0);
            more -= figure;
        }
        return x;
    }

    private static void pinHoles() {
        DUE.of(6, "SHOWN as a LET");
        PinnedToFit x = one(95, 5);
        Due.pinned(x, 6, 5, 0);
        left("SHOWN 5", x, "50 99 0 0 ; 1 5 6 1 8 0 99 ");
        DUE.of(6, "SHOWN: HOLES FIGURE more");
        due("HOLES", holed(89).count(1), 89);
        due("SHOWN 0", Due.pinned(x, 6, 0, 0) >= 0 ? x.count(1) : -1, 5);
        DUE.of(6, "SHOWN: HOLES 99 at most");
        for (int holes = 89; holes < 100; holes++) {
            PinnedToFit many = holed(holes);
            Due.pinned(many, 6, 9, 0);
            due(holes + " HOLES, SHOWN 9", many.count(1), holes == 89 ? 98 : 99);
        }
        DUE.of(6, "UNDONE: HOLES one less, whatever its FIGURE");
        PinnedToFit undone = one(50, 9);
        Due.pinned(undone, 6, 2, 0);
        Due.pinned(undone, 5, 9, 0);
        left("UNDONE 9", undone, "50 52 7 0 ; 1 1 3 1 8 7 52 ");
        Due.pinned(undone, 5, 0, 0);
        left("UNDONE 0", undone, "50 52 7 0 ; 1 0 3 1 8 7 52 ");
        due("no HOLES any more", Due.pinned(undone, 5, 0, 0), -3);
        DUE.of(6, "UNDONE from 99 HOLES");
        PinnedToFit most = holed(99);
        Due.pinned(most, 5, 0, 0);
        due("99 HOLES, UNDONE", most.count(1), 98);
    }

    /** An object with two RINGS and 357 PINS of 28 MINUTES each. */
    private static PinnedToFit with9996Minutes() {
        PinnedToFit x = Due.made("r50 54 00;r50 54 00;");
        x.keep(6, 1, 4, 9);
        for (int k = 0; k < 357; k++) {
            x.pin(6, 0);
        }
        return x;
    }

    private static void pinMinutes() {
        DUE.of(6, "it adds its MINUTES to MINUTES");
        int[] minutes = {1, 1 + 3, 1 + 6, 3 * 4, 1 + 6 + 9, 0, 1 + 6 - 3, 1 + 3 + 4};
        for (int kind = 0; kind < 8; kind++) {
            PinnedToFit x = Due.made("r50 54 90;r50 54 90;p610;");
            Due.pinned(x, kind, 3, kind == 7 ? 1 : 0);
            due("MINUTES behind KIND " + kind, x.count(2), 2 + minutes[kind]);
        }
        DUE.of(6, "MINUTES 9999 at most");
        PinnedToFit x = with9996Minutes();
        due("357 times 28", x.count(2), 9996);
        Due.pinned(x, 1, 1, 0);
        due("9996 and 2", x.count(2), 9998);
        Due.pinned(x, 0, 0, 0);
        due("9998 and 1", x.count(2), 9999);
        Due.pinned(x, 0, 0, 0);
        due("9999 and 1", x.count(2), 9999);
        PinnedToFit over = with9996Minutes();
        Due.pinned(over, 4, 9, 0);
        due("9996 and 28", over.count(2), 9999);
        due("it is put all the same", over.ring(0, 1), 99);
    }

    private static void pinRefusals() {
        PinnedToFit x = Due.made("r50 5 00;r50 5 00;");
        x.keep(0, 1, 0, 0);
        x.row(1, 0, 3);
        x.keep(3, 1, 1, 5);
        String before = Due.all(x);
        DUE.of(6, "-1: no such SHELF");
        refusesNoShelf("pin", d -> x.pin(d, 0));
        DUE.of(6, "-1: no such RING");
        for (int ring : new int[] {-1, 2, 6, LEAST, MOST}) {
            due("pin(0, " + ring + ")", x.pin(0, ring), -1);
        }
        DUE.of(6, "-11: nothing is held");
        due("pin(2, 0)", x.pin(2, 0), -11);
        DUE.of(6, "-12 (a ROW)");
        due("pin(1, 0)", x.pin(1, 0), -12);
        DUE.of(6, "-3: it MAY not be");
        due("pin(3, 0)", x.pin(3, 0), -3);
        DUE.of(6, "of several refusals the first: -1, -11, -12, -3");
        due("nothing, no such RING", x.pin(2, 2), -1);
        due("a ROW, no such RING", x.pin(1, 2), -1);
        due("it MAY not be, no such RING", x.pin(3, 2), -1);
        DUE.of(6, "a refused call changes nothing");
        DUE.same("refused PINS", Due.all(x), before);
        int[][] cannot = {{1, 5, 0}, {2, 1, 0}, {3, 5, 0}, {3, 0, 1}, {5, 0, 0}, {6, 1, 0}, {7, 0, 0}, {7, 5, 1}};
        for (int[] c : cannot) {
            due("KIND " + c[0] + ", FIGURE " + c[1] + " at " + c[2], Due.pinned(x, c[0], c[1], c[2]), -3);
        }
        left("PINS that MAY not be", x, "50 5 0 0 ; 50 5 0 0 ; 2 0 0 1 8 0 10 ");
        DUE.of(6, "LACKS then");
        PinnedToFit fits = one(61, 0);
        due("TAKEN 2: 1 above LOOSE", Due.pinned(fits, 1, 2, 0), 1);
        due("TAKEN 1: as LOOSE", Due.pinned(fits, 1, 1, 0), 0);
        DUE.of(6, "what is taken from a SHELF stays there");
        fits.keep(0, 1, 1, 1);
        fits.pin(0, 0);
        due("its MINUTES", fits.minutes(0), 2);
        due("once more", fits.pin(0, 0) >= 0 ? fits.ring(0, 1) : -1, 56);
    }

    private static void easeOfMoves() {
        DUE.of(7, "standing: WIDTH less GIRTH (may be below 0)");
        due("99 less 1", Due.made("r1 99 09;").ease(0, 0), 98);
        due("1 less 99", Due.made("r99 1 09;").ease(0, 0), -98);
        due("50 less 51", Due.made("r51 50 00;").ease(0, 0), -1);
        DUE.of(7, "sitting: GIVE less");
        for (int give = 0; give < 10; give++) {
            due("GIVE " + give, Due.made("r50 50 0" + give + ";").ease(0, 1), -give);
        }
        DUE.of(7, "arms up: half (cut) of GIVE less");
        for (int give = 0; give < 10; give++) {
            due("GIVE " + give, Due.made("r9 9 00;r50 50 0" + give + ";").ease(1, 2), -(give / 2));
        }
        PinnedToFit x = Due.made("r50 50 00;r50 50 00;r50 50 00;r50 50 00;r50 50 00;r50 50 00;");
        DUE.of(7, "arms up: 2 more at RING 0");
        for (int ring = 0; ring < 6; ring++) {
            due("ease(" + ring + ", 2)", x.ease(ring, 2), ring == 0 ? -2 : 0);
        }
        due("GIVE 9 at RING 0", Due.made("r50 50 09;").ease(0, 2), -6);
        DUE.of(7, "breathing: 1 at RINGS 0, 2, 4, 0 at others");
        for (int ring = 0; ring < 6; ring++) {
            due("ease(" + ring + ", 3)", x.ease(ring, 3), ring % 2 == 0 ? -1 : 0);
        }
        due("GIVE 9 is not counted", Due.made("r50 50 09;").ease(0, 3), -1);
    }

    private static void easeRefusals() {
        PinnedToFit x = Due.made("r50 50 00;r50 50 00;");
        DUE.of(7, "no such RING: -1000000001");
        for (int ring : new int[] {-1, 2, 6, LEAST, MOST, 1 << 30}) {
            due("ease(" + ring + ", 0)", x.ease(ring, 0), FAR);
        }
        due("ease(1, 0)", x.ease(1, 0), 0);
        DUE.of(7, "MOVES 0 .. 3: -1000000001 for others");
        for (int move : new int[] {-1, 4, LEAST, MOST}) {
            due("ease(0, " + move + ")", x.ease(0, move), FAR);
        }
        due("no RINGS", new PinnedToFit().ease(0, 0), FAR);
    }

    private static void fit() {
        DUE.of(8, "a RING FITS if its EASE is TIGHT or more");
        for (int move = 0; move < 4; move++) {
            PinnedToFit x = Due.made("r50 54 04;r50 54 04;r50 54 04;");
            for (int ring = 0; ring < 3; ring++) {
                int ease = x.ease(ring, move);
                x.line(0, Math.max(0, ease));
                due("EASE as TIGHT, MOVE " + move, x.fit(move) >> ring & 1, 1);
                x.line(0, ease + 1);
                due("EASE one below TIGHT, MOVE " + move, x.fit(move) >> ring & 1, 0);
            }
        }
        due("TIGHT 0, EASE 0", Due.made("t0;r50 50 00;").fit(0), 1);
        due("TIGHT 0, EASE -1", Due.made("t0;r50 49 00;").fit(0), 0);
        DUE.of(8, "standing, LOOSE or less");
        due("EASE as LOOSE", Due.made("r50 58 00;").fit(0), 1);
        due("EASE one above LOOSE", Due.made("r50 59 00;").fit(0), 0);
        due("LOOSE 0, EASE 0", Due.made("t0;l0;r50 50 00;").fit(0), 1);
        due("LOOSE 0, EASE 1", Due.made("t0;l0;r50 51 00;").fit(0), 0);
        due("LOOSE below TIGHT", Due.made("t5;l4;r50 54 00;r50 55 00;").fit(0), 0);
        DUE.of(8, "LOOSE counts standing alone");
        PinnedToFit wide = Due.made("r1 99 00;r1 99 00;");
        due("standing", wide.fit(0), 0);
        for (int move = 1; move < 4; move++) {
            due("fit(" + move + ")", wide.fit(move), 3);
        }
        DUE.of(8, "MOVE -1: those that FIT in each MOVE");
        due("all of six", Due.made("r50 54 00;r50 54 00;r50 54 00;r50 54 00;r50 54 00;r50 54 00;").fit(-1), 63);
        String[] withoutOne = {"r50 54 00;r50 59 00;", "r50 54 00;r50 54 04;", "r50 52 00;r50 54 00;",
            "r50 54 00;r50 54 00;r50 51 00;"};
        int[] all = {1, 1, 2, 3};
        for (int out = 0; out < 4; out++) {
            PinnedToFit x = Due.made(withoutOne[out]);
            for (int move = 0; move < 4; move++) {
                int fitting = out == move ? all[out] : (1 << x.count(0)) - 1;
                due("fit(" + move + ") of " + withoutOne[out], x.fit(move), fitting);
            }
            due("not in MOVE " + out + " alone", x.fit(-1), all[out]);
        }
        DUE.of(8, "no RINGS: no bits");
        for (int move = -1; move < 4; move++) {
            due("fit(" + move + ")", new PinnedToFit().fit(move), 0);
        }
        DUE.of(8, "-1: no such MOVE");
        for (int move : new int[] {-2, 4, LEAST, MOST}) {
            due("fit(" + move + ")", wide.fit(move), -1);
            due("fit(" + move + ") without RINGS", new PinnedToFit().fit(move), -1);
        }
    }

    private static void lacks() {
        DUE.of(9, "TIGHT less EASE, where that is above 0");
        due("EASE 3, 3, 1, 2 with TIGHT 1", Due.made("r50 53 00;").lacks(), 0);
        due("EASE 2, 2, 0, 1 with TIGHT 1", Due.made("r50 52 00;").lacks(), 1);
        due("EASE 1, 1, -1, 0 with TIGHT 1", Due.made("r50 51 00;").lacks(), 3);
        due("EASE 0, 0, -2, -1 with TIGHT 1", Due.made("r50 50 00;").lacks(), 7);
        due("sitting alone", Due.made("r9 14 00;r50 54 04;").lacks(), 1);
        DUE.of(9, "standing EASE less LOOSE, where that is above 0");
        due("EASE as LOOSE", Due.made("r50 58 00;").lacks(), 0);
        due("EASE one above LOOSE", Due.made("r50 59 00;").lacks(), 1);
        due("98 above LOOSE 0", Due.made("l0;r1 99 00;").lacks(), 98);
        DUE.of(9, "both together, of all RINGS");
        due("TIGHT above LOOSE", Due.made("t9;l0;r50 55 00;").lacks(), 4 + 4 + 6 + 5 + 5);
        PinnedToFit six = Due.made("r9 14 00;r9 14 00;r9 14 00;r9 14 00;r9 14 00;r9 9 00;");
        due("the sixth RING counts", six.lacks(), 4);
        DUE.of(9, "the most that there can be");
        PinnedToFit most = Due.made("t9;r99 1 09;r99 1 09;r99 1 09;r99 1 09;r99 1 09;r99 1 09;");
        due("six times 107, 116, 111, 107, and 2 and 3 more", most.lacks(), 6 * (107 + 116 + 111 + 107) + 2 + 3);
        DUE.of(9, "no RINGS lack nothing");
        PinnedToFit none = Due.made("t9;l0;");
        due("no RINGS", none.lacks(), 0);
    }
}

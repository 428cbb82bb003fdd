import java.util.Random;

/** Runs of drawn calls, the same ones each time: the class answers what Model does, call by call. */
public final class RandomRunsTest {
    private static final int RUNS = 2000;
    private static final int CALLS = 512;
    private static final int[] ODD = {-2147483648, -1000, -1, 6, 7, 8, 99, 100, 101, 2147483647};

    private final Random draw;
    private final PinnedToFit x = new PinnedToFit();
    private final Model model = new Model();
    private int calls;

    private RandomRunsTest(int seed) {
        draw = new Random(seed);
    }

    public static void main(String[] args) {
        int wrong = 0;
        for (int seed = 0; seed < RUNS; seed++) {
            wrong += new RandomRunsTest(seed).run(seed) ? 0 : 1;
        }
        System.out.println(RUNS + " runs, " + wrong + " not as due");
        if (wrong != 0) {
            System.exit(1);
        }
    }

    private boolean run(int seed) {
        while (calls < CALLS) {
            String told = draw.nextInt(100) < 16 ? prepare() : call();
            if (told != null) {
                System.out.println("seed " + seed + " call " + calls + ": " + told);
                return false;
            }
        }
        return true;
    }

    private int below(int n) {
        return draw.nextInt(n);
    }

    /** A number of 0 .. n - 1, now and then one that is not. */
    private int about(int n) {
        return below(60) == 0 ? ODD[below(ODD.length)] : below(60) == 0 ? n : below(n);
    }

    private String differs(String call, long got, long want) {
        calls++;
        return got == want ? null : call + " answered " + got + ", due is " + want;
    }

    private String putRow(int d, int sort, int... elements) {
        String told = differs("row", x.row(d, sort, elements.length), model.row(d, sort, elements.length));
        for (int i = 0; told == null && i < elements.length; i++) {
            told = differs("put", x.put(d, i, elements[i]), model.put(d, i, elements[i]));
        }
        return told;
    }

    /** A shelf gets what some call wants. */
    private String prepare() {
        int d = below(8);
        switch (below(7)) {
            case 0:
                return readText(d);
            case 6: {
                int kind = below(8);
                int figure = below(10);
                int r = about(Math.max(1, model.count(0)));
                String told = differs("keep", x.keep(d, 1, kind, figure), model.keep(d, 1, kind, figure));
                told = told != null ? told : differs("may", x.may(d, r), model.may(d, r));
                return told != null ? told : differs("pin", x.pin(d, r), model.pin(d, r));
            }
            case 1: {
                int[] pins = new int[3 * below(7)];
                for (int k = 0; k < pins.length; k += 3) {
                    pins[k] = about(8);
                    pins[k + 1] = about(10);
                    pins[k + 2] = about(Math.max(1, model.count(0)));
                }
                String told = putRow(d, 0, pins);
                return told != null ? told : callOnPins(d);
            }
            case 2: {
                String told = putRow(d, 0, lengths(1 + below(7)));
                return told != null ? told : differs("old", x.old(d), model.old(d));
            }
            case 3: {
                int e = (d + 1) % 8;
                String told = putRow(d, 0, lengths(1 + below(7)));
                told = told != null ? told : putRow(e, 0, lengths(1 + below(21)));
                int what = below(3);
                return told != null ? told : differs("sizes", x.sizes(d, e, what), model.sizes(d, e, what));
            }
            case 4: {
                int[] row = new int[Math.max(0, model.count(0) + below(8) / 6 - below(8) / 6)];
                int move = below(4);
                int sort = below(3);
                for (int r = 0; r < row.length; r++) {
                    row[r] = below(6) == 0 ? new int[] {-128, -32768, -2147483648}[sort] : model.ease(r, move);
                }
                String told = putRow(d, sort, row);
                return told != null ? told : differs("judge", x.judge(move, d), model.judge(move, d));
            }
            default: {
                int[] row = new int[3 * below(5) + below(20) / 19];
                for (int k = 0; k + 2 < row.length; k += 3) {
                    row[k] = about(Math.max(1, model.count(0)));
                    row[k + 1] = about(Math.max(1, model.count(0)));
                    row[k + 2] = model.ring(row[k], 0) - model.ring(row[k + 1], 0) + below(4) / 3;
                }
                String told = putRow(d, 1, row);
                int what = below(2);
                return told != null ? told : differs("measures", x.measures(d, what), model.measures(d, what));
            }
        }
    }

    private String callOnPins(int d) {
        int what = below(2);
        String told = differs("least", x.least(d, what), model.least(d, what));
        told = told != null ? told : differs("first", x.first(d), model.first(d));
        return told != null ? told : differs("orders", x.orders(d, what), model.orders(d, what));
    }

    private int[] lengths(int n) {
        int[] row = new int[n];
        int from = below(60);
        for (int k = 0; k < n; k++) {
            row[k] = below(200) == 0 ? 0 : 1 + from + below(39);
        }
        return row;
    }

    private String readText(int d) {
        StringBuilder text = new StringBuilder();
        int rings = model.count(0);
        int statements = 1 + below(5);
        for (int k = 0; k < statements; k++) {
            int kind = below(8);
            if (rings < 2 || kind < 2 && rings < 6 || below(30) == 0) {
                int girth = 1 + below(99);
                int width = below(3) == 0 ? 1 + below(99) : Math.max(1, Math.min(99, girth - 6 + below(20)));
                text.append('r').append(girth).append(' ').append(width).append(' ').append(below(100) + 100);
                text.deleteCharAt(text.length() - 3);
                rings++;
            } else if (kind < 4) {
                text.append('t').append(below(10));
            } else if (kind < 5) {
                text.append('l').append(below(31));
            } else {
                text.append('p').append(below(8)).append(below(10)).append(below(rings));
            }
            text.append(';');
        }
        if (below(5) == 0) {
            int place = below(text.length());
            text.setCharAt(place, "rtlp ;0123456789".charAt(below(16)));
        }
        if (below(20) == 0) {
            text.setLength(below(text.length()));
        }
        int[] bytes = new int[text.length()];
        for (int k = 0; k < bytes.length; k++) {
            bytes[k] = text.charAt(k);
        }
        String told = putRow(d, 0, bytes);
        return told != null ? told : differs("dress of " + text, x.dress(d), model.dress(d));
    }

    private String call() {
        int d = about(8);
        int e = about(8);
        int r = about(Math.max(1, model.count(0)));
        int what = about(2);
        switch (below(31)) {
            case 0:
                return differs("dress", x.dress(d), model.dress(d));
            case 1: {
                int w = about(4);
                return differs("ring", x.ring(r, w), model.ring(r, w));
            }
            case 2: {
                int v = about(what == 0 ? 10 : 31);
                return differs("line", x.line(what, v), model.line(what, v));
            }
            case 3:
                return differs("may", x.may(d, r), model.may(d, r));
            case 4:
                return differs("pin", x.pin(d, r), model.pin(d, r));
            case 5: {
                int move = about(4);
                return differs("ease", x.ease(r, move), model.ease(r, move));
            }
            case 6: {
                int move = about(5) - 1;
                return differs("fit", x.fit(move), model.fit(move));
            }
            case 7:
                return differs("lacks", x.lacks(), model.lacks());
            case 8: {
                int sets = about(2);
                return differs("bestPin", x.bestPin(sets, what), model.bestPin(sets, what));
            }
            case 9:
                return differs("least", x.least(d, what), model.least(d, what));
            case 10:
                return differs("first", x.first(d), model.first(d));
            case 11:
                return differs("orders", x.orders(d, what), model.orders(d, what));
            case 12: {
                int n = about(100);
                int b = about(100);
                int days = about(21);
                return differs("hem", x.hem(n, b, days), model.hem(n, b, days));
            }
            case 13: {
                int a = about(12);
                int b = about(12);
                int c = about(12);
                int f = about(12);
                return differs("darts", x.darts(a, b, c, f), model.darts(a, b, c, f));
            }
            case 14: {
                int m = about(61);
                int i = about(Math.max(1, Math.min(61, m)));
                int n = about(61);
                int j = about(Math.max(1, Math.min(61, n)));
                return differs("stripes", x.stripes(m, i, n, j), model.stripes(m, i, n, j));
            }
            case 15:
                return differs("measures", x.measures(d, what), model.measures(d, what));
            case 16: {
                int w = about(3);
                return differs("sizes", x.sizes(d, e, w), model.sizes(d, e, w));
            }
            case 17:
                return differs("old", x.old(d), model.old(d));
            case 18: {
                int f = about(10);
                return differs("shape", x.shape(r, f), model.shape(r, f));
            }
            case 19: {
                int n = about(31);
                int z = draw.nextInt();
                return differs("seeded", x.seeded(n, z, what), model.seeded(n, z, what));
            }
            case 20: {
                int move = about(4);
                return differs("judge", x.judge(move, d), model.judge(move, d));
            }
            case 21:
                return differs("image", x.image(), model.image());
            case 22:
                return differs("restore", x.restore(), model.restore());
            case 23: {
                int w = about(7);
                return differs("count", x.count(w), model.count(w));
            }
            default:
                return callOnShelves(d, e);
        }
    }

    private String callOnShelves(int d, int e) {
        int i = about(20);
        switch (below(7)) {
            case 0: {
                int what = below(6) == 0 ? about(2) : 1;
                int k = about(8);
                int figure = about(10);
                return differs("keep", x.keep(d, what, k, figure), model.keep(d, what, k, figure));
            }
            case 1: {
                int sort = about(3);
                int n = about(30);
                return differs("row", x.row(d, sort, n), model.row(d, sort, n));
            }
            case 2: {
                int v = below(2) == 0 ? draw.nextInt() : below(100);
                return differs("put", x.put(d, i, v), model.put(d, i, v));
            }
            case 3:
                return differs("element", elementOf(d, i), model.element(d, i));
            case 4: {
                int j = about(10);
                int n = about(10);
                return differs("copy", x.copy(d, i, e, j, n), model.copy(d, i, e, j, n));
            }
            case 5:
                return differs("minutes", x.minutes(d), model.minutes(d));
            default:
                return differs("toss", x.toss(d), model.toss(d));
        }
    }

    private long elementOf(int d, int i) {
        try {
            return x.element(d, i);
        } catch (IllegalArgumentException noShelf) {
            return (1L << 32) + 1;
        } catch (IllegalStateException noPlace) {
            return (1L << 32) + 2;
        }
    }
}

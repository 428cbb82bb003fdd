import java.util.ArrayList;
import java.util.List;
import java.util.regex.Matcher;
import java.util.regex.Pattern;

/** The document once more, by plainest means and other ones than the class: what RandomRunsTest compares with. */
final class Model {
    record Ring(int girth, int width, int kept, int give) {
        Ring with(int newWidth, int newKept) {
            return new Ring(girth, Math.max(1, Math.min(99, newWidth)), Math.min(9, newKept), give);
        }
    }

    record State(List<Ring> rings, int tight, int loose, int holes, int minutes) {
        State withRing(int r, Ring ring) {
            List<Ring> next = new ArrayList<>(rings);
            next.set(r, ring);
            return new State(next, tight, loose, holes, minutes);
        }

        State withHoles(int h) {
            return new State(rings, tight, loose, Math.min(99, h), minutes);
        }

        State withMinutes(int m) {
            return new State(rings, tight, loose, holes, Math.min(9999, m));
        }
    }

    record Pin(int kind, int figure) {
    }

    private static final String NUMBER = "(?:0|[1-9][0-9]?)";
    private static final Pattern DRESS = Pattern.compile(
        "(?:r" + NUMBER + " " + NUMBER + " [0-9][0-9];|t[0-9];|l" + NUMBER + ";|p[0-9][0-9][0-9];)+");

    private State state = new State(List.of(), 1, 8, 0, 0);
    private State image;
    private final Pin[] pins = new Pin[8];
    private final int[][] rows = new int[8][];
    private final int[] sorts = new int[8];

    private static boolean in(int v, int low, int high) {
        return low <= v && v <= high;
    }

    // ---- pins

    static int minutesOf(Pin p) {
        int f = p.figure;
        return new int[] {1, 1 + f, 1 + 2 * f, 3 * (1 + f), 10 + 2 * f, 0, 1 + f, 5 + f}[p.kind];
    }

    static boolean may(State s, Pin p, int r) {
        if (!in(r, 0, s.rings.size() - 1)) {
            return false;
        }
        Ring ring = s.rings.get(r);
        boolean last = r == s.rings.size() - 1;
        return switch (p.kind) {
            case 1 -> ring.width > p.figure;
            case 2, 6 -> ring.kept >= p.figure;
            case 3 -> ring.width > p.figure && !last;
            case 5 -> s.holes > 0;
            case 7 -> ring.width > p.figure && last;
            default -> true;
        };
    }

    /** null: it may not be. */
    static State put(State s, Pin p, int r) {
        if (!may(s, p, r)) {
            return null;
        }
        Ring ring = s.rings.get(r);
        int f = p.figure;
        State next = s;
        if (p.kind == 1 || p.kind == 3 || p.kind == 7) {
            next = next.withRing(r, ring.with(ring.width - f, ring.kept + f / 2));
        }
        if (p.kind == 2 || p.kind == 6) {
            next = next.withRing(r, ring.with(ring.width + f, ring.kept - f));
        }
        if (p.kind == 3) {
            Ring below = s.rings.get(r + 1);
            next = next.withRing(r + 1, below.with(below.width + f, below.kept));
        }
        if (p.kind == 4) {
            next = next.withRing(r, ring.with(ring.width + 2 * f, ring.kept));
        }
        if (p.kind == 5) {
            next = next.withHoles(s.holes - 1);
        }
        if (p.kind == 6) {
            next = next.withHoles(s.holes + f);
        }
        if (p.kind == 7) {
            for (int above = 0; above < r; above++) {
                Ring a = s.rings.get(above);
                next = next.withRing(above, a.with(a.width - 1, a.kept));
            }
        }
        return next.withMinutes(s.minutes + minutesOf(p));
    }

    // ---- how it fits

    static int ease(State s, int r, int move) {
        Ring ring = s.rings.get(r);
        int[] needs = {0, ring.give, ring.give / 2 + (r == 0 ? 2 : 0), r == 0 || r == 2 || r == 4 ? 1 : 0};
        return ring.width - ring.girth - needs[move];
    }

    static int lacks(State s) {
        int all = 0;
        for (int r = 0; r < s.rings.size(); r++) {
            for (int move = 0; move < 4; move++) {
                int short_ = s.tight - ease(s, r, move);
                all += short_ > 0 ? short_ : 0;
            }
            int over = ease(s, r, 0) - s.loose;
            all += over > 0 ? over : 0;
        }
        return all;
    }

    private int fitBits(int move) {
        int bits = 0;
        for (int r = 0; r < state.rings.size(); r++) {
            int e = ease(state, r, move);
            if (e >= state.tight && !(move == 0 && e > state.loose)) {
                bits += 1 << r;
            }
        }
        return bits;
    }

    // ---- what shelves hold

    private int wantRow(int d, int sort) {
        if (!in(d, 0, 7)) {
            return -1;
        }
        if (pins[d] == null && rows[d] == null) {
            return -11;
        }
        return rows[d] == null || sort >= 0 && sorts[d] != sort ? -12 : 0;
    }

    private int wantPin(int d) {
        if (!in(d, 0, 7)) {
            return -1;
        }
        if (pins[d] == null && rows[d] == null) {
            return -11;
        }
        return pins[d] == null ? -12 : 0;
    }

    private int wantPins(int d) {
        int refusal = wantRow(d, 0);
        if (refusal != 0) {
            return refusal;
        }
        int[] row = rows[d];
        boolean told = row.length % 3 == 0 && row.length <= 18;
        for (int k = 0; told && k < row.length; k += 3) {
            told = in(row[k], 0, 7) && in(row[k + 1], 0, 9) && in(row[k + 2], 0, state.rings.size() - 1);
        }
        return told ? 0 : -13;
    }

    private int wantLengths(int d, int most) {
        int refusal = wantRow(d, 0);
        if (refusal != 0) {
            return refusal;
        }
        boolean told = in(rows[d].length, 1, most);
        for (int v : rows[d]) {
            told &= in(v, 1, 99);
        }
        return told ? 0 : -13;
    }

    private Pin pinOf(int[] row, int n) {
        return new Pin(row[3 * n], row[3 * n + 1]);
    }

    // ---- the calls

    int dress(int d) {
        int refusal = wantRow(d, 0);
        if (refusal != 0) {
            return refusal;
        }
        StringBuilder sb = new StringBuilder();
        for (int b : rows[d]) {
            sb.append((char) (b & 255));
        }
        String text = sb.toString();
        for (int n = 1; n <= text.length(); n++) {
            Matcher m = DRESS.matcher(text.substring(0, n));
            if (!m.matches() && !m.hitEnd()) {
                return -1000 - (n - 1);
            }
        }
        if (!DRESS.matcher(text).matches()) {
            return -1000 - text.length();
        }
        State s = state;
        int place = 0;
        String[] statements = text.split(";");
        for (String statement : statements) {
            s = done(s, statement);
            if (s == null) {
                return -2000 - place;
            }
            place += statement.length() + 1;
        }
        state = s;
        return statements.length;
    }

    private static State done(State s, String statement) {
        String tail = statement.substring(1);
        switch (statement.charAt(0)) {
            case 'r': {
                String[] parts = tail.split(" ");
                int girth = Integer.parseInt(parts[0]);
                int width = Integer.parseInt(parts[1]);
                if (girth == 0 || width == 0 || s.rings.size() == 6) {
                    return null;
                }
                List<Ring> next = new ArrayList<>(s.rings);
                next.add(new Ring(girth, width, parts[2].charAt(0) - '0', parts[2].charAt(1) - '0'));
                return new State(next, s.tight, s.loose, s.holes, s.minutes);
            }
            case 't':
                return new State(s.rings, Integer.parseInt(tail), s.loose, s.holes, s.minutes);
            case 'l': {
                int loose = Integer.parseInt(tail);
                return loose > 30 ? null : new State(s.rings, s.tight, loose, s.holes, s.minutes);
            }
            default: {
                Pin p = new Pin(tail.charAt(0) - '0', tail.charAt(1) - '0');
                return p.kind > 7 ? null : put(s, p, tail.charAt(2) - '0');
            }
        }
    }

    int ring(int r, int what) {
        if (!in(r, 0, state.rings.size() - 1) || !in(what, 0, 3)) {
            return -1;
        }
        Ring ring = state.rings.get(r);
        return new int[] {ring.girth, ring.width, ring.kept, ring.give}[what];
    }

    int line(int what, int v) {
        if (what == 0 && in(v, 0, 9)) {
            int was = state.tight;
            state = new State(state.rings, v, state.loose, state.holes, state.minutes);
            return was;
        }
        if (what == 1 && in(v, 0, 30)) {
            int was = state.loose;
            state = new State(state.rings, state.tight, v, state.holes, state.minutes);
            return was;
        }
        return -1;
    }

    int may(int d, int r) {
        int refusal = in(r, 0, state.rings.size() - 1) ? wantPin(d) : -1;
        return refusal != 0 ? refusal : may(state, pins[d], r) ? 1 : 0;
    }

    int pin(int d, int r) {
        int refusal = in(r, 0, state.rings.size() - 1) ? wantPin(d) : -1;
        if (refusal != 0) {
            return refusal;
        }
        State next = put(state, pins[d], r);
        if (next == null) {
            return -3;
        }
        state = next;
        return lacks(state);
    }

    int ease(int r, int move) {
        return in(r, 0, state.rings.size() - 1) && in(move, 0, 3) ? ease(state, r, move) : -1000000001;
    }

    int fit(int move) {
        return move == -1 ? fitBits(0) & fitBits(1) & fitBits(2) & fitBits(3) : in(move, 0, 3) ? fitBits(move) : -1;
    }

    int lacks() {
        return lacks(state);
    }

    int bestPin(int sets, int what) {
        if (!in(sets, 0, 1) || !in(what, 0, 1)) {
            return -1;
        }
        List<int[]> all = new ArrayList<>();
        for (int r = 0; r < state.rings.size(); r++) {
            for (int kind = 0; kind < 8; kind++) {
                for (int figure = 0; figure < 10; figure++) {
                    Pin p = new Pin(kind, figure);
                    State next = put(state, p, r);
                    if (next != null && (kind != 4 || sets == 1)) {
                        all.add(new int[] {lacks(next), minutesOf(p), 100 * r + 10 * kind + figure});
                    }
                }
            }
        }
        all.sort(Model::compare);
        boolean some = !all.isEmpty() && all.get(0)[0] < lacks(state);
        return what == 0 ? some ? all.get(0)[2] : -4 : some ? all.get(0)[0] : lacks(state);
    }

    private static int compare(int[] a, int[] b) {
        for (int k = 0; k < a.length; k++) {
            if (a[k] != b[k]) {
                return Integer.compare(a[k], b[k]);
            }
        }
        return 0;
    }

    int least(int d, int what) {
        int refusal = in(what, 0, 1) ? wantPins(d) : -1;
        if (refusal != 0) {
            return refusal;
        }
        List<int[]> all = new ArrayList<>();
        for (int set = 0; set < 1 << rows[d].length / 3; set++) {
            State s = state;
            int minutes = 0;
            for (int n = 0; s != null && n < rows[d].length / 3; n++) {
                if ((set & 1 << n) != 0) {
                    s = put(s, pinOf(rows[d], n), rows[d][3 * n + 2]);
                    minutes += minutesOf(pinOf(rows[d], n));
                }
            }
            if (s != null) {
                all.add(new int[] {lacks(s), minutes, set});
            }
        }
        all.sort(Model::compare);
        return what == 0 ? all.get(0)[2] : all.get(0)[0];
    }

    int first(int d) {
        int refusal = wantPins(d);
        if (refusal != 0) {
            return refusal;
        }
        State s = state;
        for (int n = 0; n < rows[d].length / 3; n++) {
            s = put(s, pinOf(rows[d], n), rows[d][3 * n + 2]);
            if (s == null) {
                return n;
            }
        }
        return -4;
    }

    int orders(int d, int what) {
        int refusal = in(what, 0, 1) ? wantPins(d) : -1;
        if (refusal != 0) {
            return refusal;
        }
        int n = rows[d].length / 3;
        if (n > 5) {
            return -2;
        }
        int codes = 1;
        for (int k = 0; k < n; k++) {
            codes *= n;
        }
        int found = 0;
        int least = -4;
        for (int code = 0; code < codes; code++) {
            State s = orderDone(rows[d], n, code);
            if (s != null) {
                found++;
                least = least == -4 ? lacks(s) : Math.min(least, lacks(s));
            }
        }
        return what == 0 ? found : least;
    }

    /** The places of an order are the digits of its code to the base n; null: a place twice, or one that may not be. */
    private State orderDone(int[] row, int n, int code) {
        State s = state;
        int used = 0;
        int rest = code;
        for (int k = 0; s != null && k < n; k++) {
            int place = rest % n;
            rest /= n;
            s = (used & 1 << place) != 0 ? null : put(s, pinOf(row, place), row[3 * place + 2]);
            used |= 1 << place;
        }
        return s;
    }

    int hem(int n, int b, int days) {
        if (!in(n, 1, 99) || !in(b, 0, 99) || !in(days, 0, 20)) {
            return -1;
        }
        return days == 0 ? n : Math.min(99, hem(n, b, days - 1) * (100 + b) / 100);
    }

    int darts(int a, int b, int c, int d) {
        if (!in(a, 0, 99) || !in(c, 0, 99) || !in(b, 1, 99) || !in(d, 1, 99)) {
            return -1;
        }
        return a * d - c * b == 0 ? 1 : 0;
    }

    int stripes(int m, int i, int n, int j) {
        if (!in(m, 1, 60) || !in(n, 1, 60) || !in(i, 0, m - 1) || !in(j, 0, n - 1)) {
            return -1;
        }
        for (int place = 0; place < m * n; place++) {
            if (place % m == i && place % n == j) {
                return place;
            }
        }
        return -4;
    }

    int measures(int d, int what) {
        int refusal = in(what, 0, 1) ? wantRow(d, 1) : -1;
        if (refusal != 0) {
            return refusal;
        }
        int[] row = rows[d];
        if (row.length % 3 != 0) {
            return -13;
        }
        int firstWrong = -4;
        int[] times = new int[6];
        for (int k = 0; k < row.length; k += 3) {
            int last = state.rings.size() - 1;
            if (!in(row[k], 0, last) || !in(row[k + 1], 0, last) || row[k] == row[k + 1]) {
                return -13;
            }
            if (state.rings.get(row[k]).girth != state.rings.get(row[k + 1]).girth + row[k + 2]) {
                firstWrong = firstWrong == -4 ? k : firstWrong;
                times[row[k]]++;
                times[row[k + 1]]++;
            }
        }
        int worst = 0;
        for (int r = 1; r < 6; r++) {
            worst = times[r] > times[worst] ? r : worst;
        }
        return what == 0 ? firstWrong : times[worst] == 0 ? -4 : worst;
    }

    int sizes(int d, int e, int what) {
        if (!in(d, 0, 7) || !in(e, 0, 7) || !in(what, 0, 2)) {
            return -1;
        }
        int refusal = wantLengths(d, 6);
        refusal = refusal != 0 ? refusal : wantLengths(e, 20);
        if (refusal != 0) {
            return refusal;
        }
        List<Integer> sizes = new ArrayList<>();
        for (int size : rows[d]) {
            sizes.add(size);
        }
        if (what < 2) {
            return worn(sizes, rows[e])[what];
        }
        List<int[]> all = new ArrayList<>();
        for (int more = 1; more < 100; more++) {
            List<Integer> with = new ArrayList<>(sizes);
            with.add(more);
            int[] worn = worn(with, rows[e]);
            all.add(new int[] {worn[0], worn[1], more});
        }
        all.sort(Model::compare);
        return all.get(0)[2];
    }

    private int[] worn(List<Integer> sizes, int[] girls) {
        int without = 0;
        int spare = 0;
        for (int girl : girls) {
            int wanted = girl + state.tight;
            int taken = sizes.stream().mapToInt(size -> size).filter(size -> size >= wanted).min().orElse(-1);
            without += taken < 0 ? 1 : 0;
            spare += taken < 0 ? 0 : taken - wanted;
        }
        return new int[] {without, spare};
    }

    int old(int d) {
        int refusal = wantLengths(d, 6);
        return refusal != 0 ? refusal : mostHad(rows[d], 0, 0);
    }

    private int mostHad(int[] widths, int k, int used) {
        if (k == widths.length) {
            return 0;
        }
        int most = mostHad(widths, k + 1, used);
        for (int r = 0; r < state.rings.size(); r++) {
            Ring ring = state.rings.get(r);
            if ((used & 1 << r) == 0 && ring.width + ring.kept >= widths[k]) {
                most = Math.max(most, 1 + mostHad(widths, k + 1, used | 1 << r));
            }
        }
        return most;
    }

    int shape(int r, int f) {
        if (!in(r, 0, state.rings.size() - 1) || !in(f, 0, 9)) {
            return -1000000001;
        }
        return state.rings.get(r).width + f - state.tight - state.rings.get(r).girth;
    }

    int seeded(int n, int z, int what) {
        if (!in(n, 1, 30) || !in(what, 0, 1)) {
            return -1;
        }
        if (state.rings.isEmpty()) {
            return -3;
        }
        State s = state;
        int put = 0;
        long seed = z;
        for (int k = 0; k < n; k++) {
            int[] drawn = new int[3];
            int[] below = {s.rings.size(), 8, 10};
            for (int q = 0; q < 3; q++) {
                seed = (int) (seed * 1103515245L + 12345L);
                drawn[q] = (int) ((seed & 0x7fffffffL) / 65536) % below[q];
            }
            State next = put(s, new Pin(drawn[1], drawn[2]), drawn[0]);
            put += next == null ? 0 : 1;
            s = next == null ? s : next;
        }
        return what == 0 ? lacks(s) : put;
    }

    int judge(int move, int d) {
        int refusal = in(move, 0, 3) ? wantRow(d, -1) : -1;
        if (refusal != 0) {
            return refusal;
        }
        int[] row = rows[d];
        int skipped = new int[] {Byte.MIN_VALUE, Short.MIN_VALUE, Integer.MIN_VALUE}[sorts[d]];
        for (int r = 0; r < state.rings.size(); r++) {
            if (r == row.length || row[r] != skipped && row[r] != ease(state, r, move)) {
                return r;
            }
        }
        return row.length > state.rings.size() ? state.rings.size() : -4;
    }

    int image() {
        image = state;
        return state.rings.size();
    }

    int restore() {
        if (image == null) {
            return -3;
        }
        state = image;
        return state.rings.size();
    }

    int count(int what) {
        int kept = state.rings.stream().mapToInt(Ring::kept).sum();
        int width = state.rings.stream().mapToInt(Ring::width).sum();
        int[] all = {state.rings.size(), state.holes, state.minutes, state.tight, state.loose, kept, width};
        return in(what, 0, 6) ? all[what] : -1;
    }

    int keep(int d, int what, int k, int figure) {
        if (!in(d, 0, 7) || !in(what, 0, 1) || what == 1 && (!in(k, 0, 7) || !in(figure, 0, 9))) {
            return -1;
        }
        rows[d] = null;
        pins[d] = what == 0 ? null : new Pin(k, figure);
        return 0;
    }

    int row(int d, int sort, int n) {
        if (!in(d, 0, 7) || !in(sort, 0, 2) || n > 100) {
            return -1;
        }
        if (n < 0) {
            return -14;
        }
        pins[d] = null;
        rows[d] = new int[n];
        sorts[d] = sort;
        return 0;
    }

    int put(int d, int i, int v) {
        int refusal = wantRow(d, -1);
        if (refusal != 0) {
            return refusal;
        }
        if (!in(i, 0, rows[d].length - 1)) {
            return -13;
        }
        int bits = new int[] {24, 16, 0}[sorts[d]];
        rows[d][i] = v << bits >> bits;
        return 0;
    }

    /** The element; 1L above all ints: IllegalArgumentException, 2L above them: IllegalStateException. */
    long element(int d, int i) {
        int refusal = wantRow(d, -1);
        if (refusal == -1) {
            return (1L << 32) + 1;
        }
        return refusal != 0 || !in(i, 0, rows[d].length - 1) ? (1L << 32) + 2 : rows[d][i];
    }

    int copy(int d, int i, int e, int j, int n) {
        if (!in(d, 0, 7) || !in(e, 0, 7)) {
            return -1;
        }
        if (wantRow(d, -1) == -11 || wantRow(e, -1) == -11) {
            return -11;
        }
        if (rows[d] == null || rows[e] == null || sorts[d] != sorts[e]) {
            return -12;
        }
        boolean there = n >= 0 && i >= 0 && j >= 0;
        if (!there || (long) i + n > rows[d].length || (long) j + n > rows[e].length) {
            return -13;
        }
        int[] before = rows[d].clone();
        for (int k = 0; k < n; k++) {
            rows[e][j + k] = before[i + k];
        }
        return n;
    }

    int minutes(int d) {
        int refusal = wantPin(d);
        return refusal != 0 ? refusal : minutesOf(pins[d]);
    }

    int toss(int d) {
        int refusal = wantPin(d);
        if (refusal != 0) {
            return refusal;
        }
        if (pins[d].kind == 5 || pins[d].figure == 0) {
            return -15;
        }
        int kind = pins[d].kind;
        return kind == 4 ? 200 + minutesOf(pins[d]) : pins[d].figure + (kind == 3 ? 100 : 0);
    }
}

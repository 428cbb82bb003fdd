/** Counts the answers that are not due, and tells each. */
final class Due {
    private int asked;
    private int wrong;

    void is(String call, long got, long want) {
        asked++;
        if (got != want) {
            wrong++;
            System.out.println(call + " answered " + got + ", due is " + want);
        }
    }

    /** Ends the test: exit code 1, if an answer was not due. */
    void end() {
        System.out.println(asked + " answers, " + wrong + " not as due");
        if (wrong != 0 || asked == 0) {
            System.exit(1);
        }
    }

    /** Puts a row of a sort with these elements on a shelf. */
    static void row(PinnedToFit x, int d, int sort, int... elements) {
        x.row(d, sort, elements.length);
        for (int i = 0; i < elements.length; i++) {
            x.put(d, i, elements[i]);
        }
    }

    /** Reads a text from shelf 7. */
    static int read(PinnedToFit x, String text) {
        int[] bytes = new int[text.length()];
        for (int i = 0; i < bytes.length; i++) {
            bytes[i] = text.charAt(i);
        }
        row(x, 7, 0, bytes);
        return x.dress(7);
    }

    /** A new object that has read a text from shelf 7. */
    static PinnedToFit made(String text) {
        PinnedToFit x = new PinnedToFit();
        if (read(x, text) < 0) {
            throw new IllegalStateException("not a dress: " + text);
        }
        return x;
    }

    /** All of a dress but its shelves as one text. */
    static String seen(PinnedToFit x) {
        StringBuilder seen = new StringBuilder();
        for (int ring = 0; ring < x.count(0); ring++) {
            for (int what = 0; what < 4; what++) {
                seen.append(x.ring(ring, what)).append(' ');
            }
            seen.append("; ");
        }
        for (int what = 0; what < 7; what++) {
            seen.append(x.count(what)).append(' ');
        }
        return seen.toString();
    }

    void same(String call, String got, String want) {
        asked++;
        if (!got.equals(want)) {
            wrong++;
            System.out.println(call + " left " + got + ", due is " + want);
        }
    }
}

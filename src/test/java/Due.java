/** Counts the answers that are not due, and tells each, with the promise and the sentence that it breaks. */
final class Due {
    private static final int PROMISES = 32;

    private final int[] answersOf = new int[PROMISES + 1];
    private int promise;
    private String sentence = "";
    private int askedOfSentence = 1;
    private int sentences;
    private int asked;
    private int wrong;

    /** What is asked from here on tests this sentence of a promise (or of the terms that the promise needs). */
    void of(int nextPromise, String nextSentence) {
        lookForAnswers();
        promise = nextPromise;
        sentence = nextSentence;
        askedOfSentence = 0;
        sentences++;
    }

    private void lookForAnswers() {
        if (askedOfSentence == 0) {
            wrong++;
            System.out.println("promise " + promise + " (" + sentence + "): nothing was asked");
        }
    }

    private void look(boolean asDue, String told) {
        asked++;
        askedOfSentence++;
        answersOf[promise]++;
        if (!asDue) {
            wrong++;
            System.out.println("promise " + promise + " (" + sentence + "): " + told);
        }
    }

    void is(String call, long got, long want) {
        look(got == want, call + " answered " + got + ", due is " + want);
    }

    void same(String call, String got, String want) {
        look(got.equals(want), call + " left " + got + ", due is " + want);
    }

    /** Ends the test: exit code 1, if an answer was not due, or if one of these promises was not asked for. */
    void end(int firstPromise, int lastPromise) {
        lookForAnswers();
        for (int p = firstPromise; p <= lastPromise; p++) {
            if (answersOf[p] == 0) {
                wrong++;
                System.out.println("promise " + p + ": nothing was asked");
            }
        }
        System.out.println(asked + " answers to " + sentences + " sentences, " + wrong + " not as due");
        if (wrong != 0 || asked == 0) {
            System.exit(1);
        }
    }

    /** Puts a row of a sort with these elements on a shelf. */
    static void row(PinnedToFit x, int d, int sort, int... elements) {
        x.row(d, sort, elements.length);
        for (int i = 0; i < elements.length; i++) {
            x.put(d, i, elements[i]);
        }
    }

    /** A text as a row of bytes on a shelf. */
    static void text(PinnedToFit x, int d, String text) {
        int[] bytes = new int[text.length()];
        for (int i = 0; i < bytes.length; i++) {
            bytes[i] = text.charAt(i);
        }
        row(x, d, 0, bytes);
    }

    /** Reads a text from shelf 7. */
    static int read(PinnedToFit x, String text) {
        text(x, 7, text);
        return x.dress(7);
    }

    /** A new object that has read a text from shelf 7. */
    static PinnedToFit made(String text) {
        PinnedToFit x = new PinnedToFit();
        if (read(x, text) < 0) {
            throw new IllegalStateException("not a dress: " + text);
        }
        return x;
    }

    /** Puts a pin by way of shelf 6. */
    static int pinned(PinnedToFit x, int kind, int figure, int ring) {
        x.keep(6, 1, kind, figure);
        return x.pin(6, ring);
    }

    /** Asks for a pin by way of shelf 6. */
    static int allowed(PinnedToFit x, int kind, int figure, int ring) {
        x.keep(6, 1, kind, figure);
        return x.may(6, ring);
    }

    /** All of a dress but its shelves as one text. */
    static String seen(PinnedToFit x) {
        StringBuilder seen = new StringBuilder();
        for (int ring = 0; ring < x.count(0); ring++) {
            for (int what = 0; what < 4; what++) {
                seen.append(x.ring(ring, what)).append(' ');
            }
            seen.append("; ");
        }
        for (int what = 0; what < 7; what++) {
            seen.append(x.count(what)).append(' ');
        }
        return seen.toString();
    }

    /** What a shelf holds; old and measures tell the sort of a row. */
    static String held(PinnedToFit x, int d) {
        StringBuilder held = new StringBuilder();
        held.append(x.minutes(d)).append(' ').append(x.toss(d)).append(' ');
        held.append(x.old(d)).append(' ').append(x.measures(d, 0)).append(':');
        for (int i = 0; i <= 100; i++) {
            try {
                held.append(' ').append(x.element(d, i));
            } catch (IllegalStateException noPlace) {
                break;
            }
        }
        return held.toString();
    }

    /** All of a dress and its shelves as one text. */
    static String all(PinnedToFit x) {
        StringBuilder all = new StringBuilder(seen(x));
        for (int d = 0; d < 8; d++) {
            all.append("| ").append(held(x, d));
        }
        return all.toString();
    }
}

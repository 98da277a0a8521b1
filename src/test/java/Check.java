import java.util.NoSuchElementException;

/** What the tests of the promises share: answers that are due, throws that are due, texts for the tape. */
final class Check {
    static final Class<? extends RuntimeException> NO_ELEMENT = NoSuchElementException.class;
    static final Class<? extends RuntimeException> STATE = IllegalStateException.class;
    static final Class<? extends RuntimeException> ARGUMENT = IllegalArgumentException.class;
    static final Class<? extends RuntimeException> BOUNDS = IndexOutOfBoundsException.class;

    /** An air in which nothing lifts, drags or turns: a throw is a stone's. */
    static final String STONE = "lift 0 0 0 0 0 0 0 0 0;drag 0 0 0 0 0 0 0 0 0;turn 0;";
    /** Numbers that lie far outside of all bounds. */
    static final int[] WILD = {Integer.MIN_VALUE, Integer.MIN_VALUE + 1, -100000, 100000, Integer.MAX_VALUE - 1, Integer.MAX_VALUE};

    interface Call {
        void make();
    }

    private int asked;
    private int wrong;
    private String sentence = "";

    /** What follows tests this sentence of the document (SentencesTest looks it up there). */
    void says(int promise, String words) {
        sentence = "promise " + promise + " \"" + words + "\": ";
    }

    void due(long want, long got, String what) {
        asked++;
        if (got != want) {
            wrong++;
            System.out.println(sentence + what + " answered " + got + ", due is " + want);
        }
    }

    void due(boolean want, boolean got, String what) {
        due(want ? 1 : 0, got ? 1 : 0, what);
    }

    void refused(Class<? extends RuntimeException> kind, String what, Call call) {
        asked++;
        String got = thrownBy(call);
        if (!got.equals(kind.getSimpleName())) {
            wrong++;
            System.out.println(sentence + what + " threw " + got + ", due is " + kind.getSimpleName());
        }
    }

    static String thrownBy(Call call) {
        try {
            call.make();
        } catch (RuntimeException e) {
            return e.getClass().getSimpleName();
        }
        return "nothing";
    }

    void end() {
        System.out.println(wrong == 0 ? asked + " answers are as due" : wrong + " of " + asked + " answers are not as due");
        if (wrong != 0) {
            System.exit(1);
        }
    }

    // ---- objects to ask

    /** Puts a text onto the tape, filled up with blanks to whole twenties. */
    static void feed(DartHangar hangar, String text) {
        for (int i = 0; i < text.length(); i += 20) {
            int[] five = new int[5];
            for (int k = 0; k < 20; k++) {
                int b = i + k < text.length() ? text.charAt(i + k) : ' ';
                five[k / 4] = five[k / 4] << 8 | b;
            }
            hangar.feed(five[0], five[1], five[2], five[3], five[4]);
        }
    }

    static int way(DartHangar hangar, String text) {
        feed(hangar, text);
        return hangar.way(text.length());
    }

    static int law(DartHangar hangar, String text) {
        feed(hangar, text);
        return hangar.law(text.length());
    }

    /** WAY 0 of this text, on a SHEET of this size. */
    static DartHangar folded(int rows, int columns, String text) {
        DartHangar h = new DartHangar();
        h.sheet(rows, columns);
        way(h, text);
        return h;
    }

    /** WAY 0 is the whole sheet (S 48, W 48, LEVER 0), WAY 1 nose 2 (S 36, W 48, LEVER 10), WAY 2 has no MAKE. */
    static DartHangar hangar(String law) {
        DartHangar h = new DartHangar();
        way(h, "");
        way(h, "nose 2;");
        way(h, "nose 5;");
        law(h, law);
        return h;
    }

    /** The same; HAND 0 throws 100 at 0 (chance 2) and at 16 (chance 1), HAND 1 not at all. */
    static DartHangar hands(String law) {
        DartHangar h = hangar(law);
        h.hand();
        h.toss(0, 100, 0, 2);
        h.toss(0, 100, 16, 1);
        h.hand();
        return h;
    }
}

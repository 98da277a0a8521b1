import java.util.NoSuchElementException;

/** What the tests of the promises share: answers that are due, throws that are due, texts for the tape. */
final class Check {
    static final Class<? extends RuntimeException> NO_ELEMENT = NoSuchElementException.class;
    static final Class<? extends RuntimeException> STATE = IllegalStateException.class;
    static final Class<? extends RuntimeException> ARGUMENT = IllegalArgumentException.class;
    static final Class<? extends RuntimeException> BOUNDS = IndexOutOfBoundsException.class;

    interface Call {
        void make();
    }

    private int asked;
    private int wrong;
    private String promise = "";

    void promise(int number) {
        promise = "promise " + number + ": ";
    }

    void due(long want, long got, String what) {
        asked++;
        if (got != want) {
            wrong++;
            System.out.println(promise + what + " answered " + got + ", due is " + want);
        }
    }

    void due(boolean want, boolean got, String what) {
        due(want ? 1 : 0, got ? 1 : 0, what);
    }

    void refused(Class<? extends RuntimeException> kind, String what, Call call) {
        asked++;
        String got = "nothing";
        try {
            call.make();
        } catch (RuntimeException e) {
            got = e.getClass().getSimpleName();
        }
        if (!got.equals(kind.getSimpleName())) {
            wrong++;
            System.out.println(promise + what + " threw " + got + ", due is " + kind.getSimpleName());
        }
    }

    void end() {
        System.out.println(wrong == 0 ? asked + " answers are as due" : wrong + " of " + asked + " answers are not as due");
        if (wrong != 0) {
            System.exit(1);
        }
    }

    /** Puts a text onto the tape, filled up with blanks to whole twenties. */
    static void feed(DartHangar hangar, String text) {
        for (int i = 0; i < text.length(); i += 20) {
            int[] five = new int[5];
            for (int k = 0; k < 20; k++) {
                int b = i + k < text.length() ? text.charAt(i + k) : ' ';
                five[k / 4] = five[k / 4] << 8 | b;
            }
            hangar.feed(five[0], five[1], five[2], five[3], five[4]);
        }
    }

    static int way(DartHangar hangar, String text) {
        feed(hangar, text);
        return hangar.way(text.length());
    }

    static int law(DartHangar hangar, String text) {
        feed(hangar, text);
        return hangar.law(text.length());
    }

    /** An air in which nothing lifts, drags or turns: a throw is a stone's. */
    static final String STONE = "lift 0 0 0 0 0 0 0 0 0;drag 0 0 0 0 0 0 0 0 0;turn 0;";
}

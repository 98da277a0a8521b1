/** Promises 3 to 7: the tape, WAYS and THE LAW as texts, their FAULTS, the FOLDS of a WAY. */
public final class TextsTest {
    private static final Check check = new Check();
    private static final String ELEVEN = "nose 1;nose 1;nose 1;nose 1;nose 1;nose 1;nose 1;nose 1;nose 1;nose 1;nose 1;";

    public static void main(String[] args) {
        feed();
        fullTape();

        firstBytesAreAWay();
        sixWays();
        faultOfAWay();
        wrongLengthOfAWay();
        wayOf400Bytes();
        folds();
        kinds();
        boundsOfAWay();
        waysNumbered();

        firstBytesAreTheLaw();
        faultOfALaw();
        lawOf400Bytes();
        lines();
        liftAndDrag();
        boundsOfALaw();
        laterOnesStrike();
        withoutLines();

        tokensAsLongAsTheyGo();
        tokens();
        firstFault();
        noToken();
        cannotStandThere();
        outOfBounds();
        twelfthFold();

        latestReading();
        faultAndPlace();
        otherFaults();

        howManyFolds();
        foldByNumber();
        notSoMany();
        noSuchWay();
        check.end();
    }

    private static String filled(String text, int length) {
        StringBuilder all = new StringBuilder(text);
        while (all.length() < length) {
            all.append(' ');
        }
        return all.toString();
    }

    // ---- promise 3

    private static void feed() {
        check.says(3, "Twenty bytes come behind those on the tape, the highest of each int first: how many it has");
        DartHangar h = new DartHangar();
        check.due(20, h.feed(0x6e6f7365, 0x20313b73, 0x69646520, 0x323b636f, 0x726e6572), "the first feed");
        check.due(20, h.count(4), "bytes on the tape");
        check.due(40, h.feed(0x20333b20, 0x20202020, 0x20202020, 0x20202020, 0x20202020), "the second feed");
        check.due(40, h.count(4), "bytes on the tape then");
        check.due(0, h.way(23), "nose 1;side 2;corner 3;");
        check.due(1, h.fold(0, 0), "its first FOLD");
        check.due(102, h.fold(0, 1), "its second FOLD");
        check.due(203, h.fold(0, 2), "its third FOLD");
        // A byte above 127 is one byte, wherever in its int it is.
        int[] sevens = {0xff202020, 0x20ff2020, 0x2020ff20, 0x202020ff, 0x20202080};
        int[] places = {4, 5, 6, 7, 7};
        for (int i = 0; i < sevens.length; i++) {
            h.feed(0x20202020, sevens[i], 0x20202020, 0x20202020, 0x20202020);
            check.due(-11, h.way(20), "a byte above 127");
            check.due(places[i], h.fault(1), "its place");
        }
    }

    private static void fullTape() {
        check.says(3, "NONE, and nothing changes, if there would be more than 400.");
        DartHangar h = new DartHangar();
        for (int i = 1; i <= 20; i++) {
            check.due(20 * i, h.feed(0x6e6f7365, 0x20313b20, 0x20202020, 0x20202020, 0x20202020), "feed number " + i);
        }
        check.due(-1, h.feed(0, 0, 0, 0, 0), "a feed beyond 400 bytes");
        check.due(-1, h.feed(-1, -1, -1, -1, -1), "one more");
        check.due(400, h.count(4), "bytes on a full tape");
        // Twenty times nose 1: the twelfth one's place is 220.
        check.due(-14, h.way(400), "the 400 bytes are as they were");
        check.due(220, h.fault(1), "the 400 bytes are as they were");
        check.due(20, h.feed(0, 0, 0, 0, 0), "a feed behind that");
    }

    // ---- promise 4

    private static void firstBytesAreAWay() {
        check.says(4, "The first n bytes of the tape (which is empty then) are a further WAY: its number");
        DartHangar h = new DartHangar();
        Check.feed(h, "nose 1;side 1;!");
        check.due(0, h.way(7), "way(7)");
        check.due(1, h.fold(0, -1), "FOLDS of the first 7 bytes");
        check.due(0, h.count(4), "the tape behind a WAY");
        Check.feed(h, "nose 1;side 1;!");
        check.due(1, h.way(14), "way(14)");
        check.due(2, h.fold(1, -1), "FOLDS of the first 14 bytes");
        Check.feed(h, "nose 1;side 1;!");
        check.due(2, h.way(0), "way(0) of a tape with bytes");
        check.due(0, h.fold(2, -1), "FOLDS of no byte");
        check.due(0, h.count(4), "the tape behind way(0)");
        check.due(3, h.way(0), "way(0) of an empty tape");
        check.due(4, Check.way(h, "                    "), "a WAY of blanks");
        check.due(0, h.fold(4, -1), "FOLDS of blanks");
        Check.feed(h, "nose 1;side 1;!");
        check.due(-11, h.way(15), "way(15)");
    }

    private static void sixWays() {
        check.says(4, "NONE if there are 6 (the tape stays)");
        DartHangar h = new DartHangar();
        Check.way(h, "nose;");
        for (int i = 0; i < 5; i++) {
            h.way(0);
        }
        Check.feed(h, "nose 1;side 1;corner 2;");
        check.due(5, h.way(7), "the sixth WAY");
        Check.feed(h, "nose 0;pull 7;");
        check.due(-1, h.way(7), "a seventh WAY");
        check.due(-1, h.way(0), "a seventh WAY of no byte");
        check.due(20, h.count(4), "the tape stays");
        check.due(0, h.fault(0), "it was not read");
        check.due(6, h.count(0), "WAYS");
        check.due(1, h.fold(5, -1), "FOLDS of the sixth");
        check.due(40, h.feed(0, 0, 0, 0, 0), "the tape goes on");
        check.due(-12, h.law(14), "the tape stays as it was");
        check.due(0, h.fault(1), "nose is no LINE");
    }

    private static void faultOfAWay() {
        check.says(4, "-10 less the FAULT.");
        String[] texts = {"!", "nose;", "nose 0;", ELEVEN + "nose 1;"};
        for (int kind = 1; kind <= 4; kind++) {
            DartHangar h = new DartHangar();
            check.due(-10 - kind, Check.way(h, texts[kind - 1]), "way of " + texts[kind - 1]);
            check.due(0, h.count(0), "WAYS behind a FAULT");
            check.due(0, h.count(4), "the tape behind a FAULT");
            check.due(0, h.way(0), "the next WAY's number");
            check.due(0, h.fold(0, -1), "the next WAY's FOLDS");
        }
    }

    private static void wrongLengthOfAWay() {
        check.says(4, "IllegalArgumentException: n is below 0 or above what it has.");
        DartHangar h = new DartHangar();
        check.refused(Check.ARGUMENT, "way(1) of an empty tape", () -> h.way(1));
        check.refused(Check.ARGUMENT, "way(-1) of an empty tape", () -> h.way(-1));
        Check.feed(h, "nose 1;");
        check.refused(Check.ARGUMENT, "way(21) of 20 bytes", () -> h.way(21));
        check.refused(Check.ARGUMENT, "way(-1) of 20 bytes", () -> h.way(-1));
        for (int wild : Check.WILD) {
            check.refused(Check.ARGUMENT, "way(" + wild + ")", () -> h.way(wild));
        }
        check.due(20, h.count(4), "the tape behind refused ones");
        check.due(0, h.way(20), "way(20) of 20 bytes");
        check.due(1, h.fold(0, 0), "its FOLD");
        for (int i = 0; i < 5; i++) {
            h.way(0);
        }
        check.refused(Check.ARGUMENT, "way(1) of an empty tape and 6 WAYS", () -> h.way(1));
        check.refused(Check.ARGUMENT, "way(-1) and 6 WAYS", () -> h.way(-1));
    }

    private static void wayOf400Bytes() {
        check.says(4, "A WAY is a TEXT of at most 400 bytes: { FOLD ; }");
        DartHangar h = new DartHangar();
        check.due(0, Check.way(h, filled("nose 1;", 393) + "side 2;"), "a WAY of 400 bytes");
        check.due(102, h.fold(0, 1), "its last FOLD");
        check.due(1, Check.way(h, ""), "a WAY of none");
        check.due(0, h.fold(1, -1), "its FOLDS");
        dueFault(2, 400, filled("nose 1;", 393) + " side 2", true);
        check.refused(Check.ARGUMENT, "a WAY of 401 bytes", () -> {
            Check.feed(h, filled("nose 1;", 400));
            Check.feed(h, ";");
            h.way(401);
        });
    }

    private static void folds() {
        check.says(4, "FOLD: KIND N.");
        dueFault(0, -1, "nose 1;", true);
        dueFault(2, 0, "1 nose;", true);
        dueFault(2, 4, "nose;", true);
        dueFault(2, 7, "nose 1 1;", true);
        dueFault(2, 5, "nose side 1;", true);
    }

    private static void kinds() {
        check.says(4, "KIND: nose, side, corner.");
        dueFault(0, -1, "nose 1;side 1;corner 1;", true);
        for (String word : new String[] {"noses", "nos", "sid", "sides", "corne", "corners", "lift", "pull", "z", "a",
            "xose", "nxse", "nosx", "xide", "sidx", "xorner", "cornex"}) {
            dueFault(2, 7, "nose 1;" + word + " 1;", true);
        }
    }

    private static void boundsOfAWay() {
        check.says(4, "At most 11 FOLDS, N 1 to 12.");
        for (String kind : new String[] {"nose", "side", "corner"}) {
            int at = kind.length() + 1;
            dueFault(3, at, kind + " 0;", true);
            dueFault(0, -1, kind + " 1;", true);
            dueFault(0, -1, kind + " 12;", true);
            dueFault(3, at, kind + " 13;", true);
        }
        DartHangar h = new DartHangar();
        check.due(0, Check.way(h, ELEVEN), "11 FOLDS");
        check.due(11, h.fold(0, -1), "11 FOLDS");
        check.due(-14, Check.way(h, ELEVEN + "nose 1;"), "12 FOLDS");
        check.due(1, h.count(0), "WAYS");
    }

    private static void waysNumbered() {
        check.says(4, "WAYS, at most 6, numbered as they come.");
        DartHangar h = new DartHangar();
        for (int i = 0; i < 6; i++) {
            check.due(i, h.count(0), "WAYS so far");
            check.due(i, Check.way(h, "nose " + (i + 1) + ";"), "number of a WAY");
        }
        for (int i = 0; i < 6; i++) {
            check.due(i + 1, h.fold(i, 0), "the FOLD of WAY " + i);
        }
        check.due(-1, h.way(0), "a seventh WAY");
        check.refused(Check.NO_ELEMENT, "fold(6, 0)", () -> h.fold(6, 0));
    }

    // ---- promise 5

    private static void firstBytesAreTheLaw() {
        check.says(5, "The same are THE LAW: how many LINES");
        DartHangar h = new DartHangar();
        Check.feed(h, "pull 7;thin 8;!");
        check.due(1, h.law(7), "law(7)");
        check.due(7, h.count(5), "pull of the first 7 bytes");
        check.due(10, h.count(6), "thin of the first 7 bytes");
        check.due(0, h.count(4), "the tape behind a LAW");
        check.due(5, Check.law(h, "pull 50;thin 99;turn 0;slow 9;roof 10;"), "5 LINES");
        check.due(2, Check.law(h, "pull 7;pull 7;"), "2 LINES");
        Check.feed(h, "!");
        check.due(0, h.law(0), "law(0) of a tape with bytes");
        check.due(10, h.count(5), "pull of an empty LAW");
        check.due(0, h.count(4), "the tape behind law(0)");
        check.due(0, h.law(0), "law(0) of an empty tape");
        check.refused(Check.ARGUMENT, "law(1) of an empty tape", () -> h.law(1));
        check.refused(Check.ARGUMENT, "law(-1)", () -> h.law(-1));
        Check.feed(h, "pull 9;");
        check.refused(Check.ARGUMENT, "law(21) of 20 bytes", () -> h.law(21));
        for (int wild : Check.WILD) {
            check.refused(Check.ARGUMENT, "law(" + wild + ")", () -> h.law(wild));
        }
        check.due(1, h.law(20), "law(20) of 20 bytes");
        check.due(9, h.count(5), "its pull");
        for (int i = 0; i < 6; i++) {
            h.way(0);
        }
        check.due(1, Check.law(h, "pull 8;"), "a LAW beside 6 WAYS");
    }

    private static void faultOfALaw() {
        check.says(5, "-10 less the FAULT.");
        String[] texts = {"pull 5;thin 5;!", "pull 5;thin;", "pull 5;thin 0;"};
        for (int kind = 1; kind <= 3; kind++) {
            DartHangar h = new DartHangar();
            Check.law(h, "pull 9;thin 8;turn 7;slow 6;roof 55;");
            check.due(-10 - kind, Check.law(h, texts[kind - 1]), "law of " + texts[kind - 1]);
            check.due(0, h.count(4), "the tape behind a FAULT");
            int[] want = {9, 8, 7, 6, 55};
            for (int i = 0; i < 5; i++) {
                check.due(want[i], h.count(5 + i), "count(" + (5 + i) + ") behind a FAULT");
            }
        }
        DartHangar drag = Check.hangar("drag 2 0 0 0 0 0 0 0 0;");
        check.due(-12, Check.law(drag, "drag 99 0 0 0 0 0 0 0 0;lift;"), "a LAW with a FAULT behind its drag");
        check.due(500 - 2 * 250 * 48 / 480, drag.at(0, 0, 500, 0, 1, 2), "VX by the drag as it was");
    }

    private static void lawOf400Bytes() {
        check.says(5, "THE LAW is a TEXT of at most 400 bytes: { LINE ; }");
        DartHangar h = new DartHangar();
        check.due(2, Check.law(h, filled("pull 1;", 393) + "thin 2;"), "a LAW of 400 bytes");
        check.due(1, h.count(5), "its first LINE");
        check.due(2, h.count(6), "its last LINE");
        StringBuilder most = new StringBuilder();
        for (int i = 0; i < 57; i++) {
            most.append("slow ").append(i % 10).append(';');
        }
        check.due(57, Check.law(h, most.toString()), "as many LINES as 400 bytes hold");
        check.due(6, h.count(8), "the last of them");
        check.due(0, Check.law(h, ""), "a LAW of none");
        check.refused(Check.ARGUMENT, "a LAW of 401 bytes", () -> {
            Check.feed(h, filled("pull 1;", 400));
            Check.feed(h, ";");
            h.law(401);
        });
    }

    private static void lines() {
        check.says(5, "LINE: lift N N N N N N N N N | drag N N N N N N N N N | pull N | thin N | turn N | slow N | roof N.");
        dueFault(0, -1, "lift 1 2 3 4 5 6 7 8 9;drag 1 2 3 4 5 6 7 8 9;pull 1;thin 1;turn 1;slow 1;roof 10;", false);
        dueFault(2, 20, "lift 1 2 3 4 5 6 7 8;", false);
        dueFault(2, 23, "lift 1 2 3 4 5 6 7 8 9 10;", false);
        dueFault(2, 20, "drag 1 2 3 4 5 6 7 8;", false);
        dueFault(2, 23, "drag 1 2 3 4 5 6 7 8 9 10;", false);
        for (String word : new String[] {"lift", "drag", "pull", "thin", "turn", "slow", "roof"}) {
            dueFault(2, 4, word + ";", false);
            dueFault(2, 4, word, false);
        }
        for (String word : new String[] {"pull", "thin", "turn", "slow"}) {
            dueFault(2, 7, word + " 1 1;", false);
        }
        dueFault(2, 8, "roof 10 1;", false);
        dueFault(2, 0, "nose 1;", false);
        dueFault(2, 0, "lifts 1;", false);
        dueFault(2, 0, "pul 1;", false);
        for (String word : new String[] {"xift", "lifx", "xrag", "drax", "xull", "pulx", "xhin", "thix", "xurn", "turx", "xlow", "slox", "xoof", "roox"}) {
            dueFault(2, 0, word + " 10;", false);
        }
    }

    private static void liftAndDrag() {
        check.says(5, "lift, drag: for ATTACK 0 to 8 (0 to 99 each).");
        dueFault(0, -1, "lift 0 0 0 0 0 0 0 0 0;drag 99 99 99 99 99 99 99 99 99;", false);
        dueFault(1, 21, "lift 1 2 3 4 5 6 7 8 100;", false);
        dueFault(1, 5, "drag 100 2 3 4 5 6 7 8 9;", false);
        // The nose stays level; what SPEED and pull make, PATH is k steps below it in TICK 2, so ATTACK is k.
        int[] speeds = {50, 100, 90, 100, 100, 80, 75, 60, 50};
        int[] pulls = {1, 10, 18, 30, 41, 43, 50, 49, 50};
        for (int k = 0; k <= 8; k++) {
            StringBuilder law = new StringBuilder("turn 0;thin 1;pull ").append(pulls[k]).append(';');
            law.append("lift 0 0 0 0 0 0 0 0 0;drag");
            for (int i = 0; i <= 8; i++) {
                law.append(i == k && k > 0 ? " 10" : " 0");
            }
            DartHangar h = Check.hangar(law.append(';').toString());
            int q = (speeds[k] * speeds[k] + pulls[k] * pulls[k]) / 1000;
            int[] cosines = {1000, 995, 981, 957, 924, 882, 831, 773, 707};
            int want = speeds[k] - (k > 0 ? 10 * q * cosines[k] / 1000 : 0);
            check.due(speeds[k], h.at(0, 0, speeds[k], 0, 1, 2), "VX ahead of ATTACK " + k);
            check.due(-pulls[k], h.at(0, 0, speeds[k], 0, 1, 3), "VY ahead of ATTACK " + k);
            check.due(want, h.at(0, 0, speeds[k], 0, 2, 2), "VX by the drag of ATTACK " + k);
        }
        // ATTACK 0: DRAG 99 times 250 times 36 by (48 times 10) is 1856.
        DartHangar level = Check.hangar("drag 99 0 1 2 3 4 5 6 98 ; ");
        check.due(500 - 1856, level.at(1, 0, 500, 0, 1, 2), "VX by the drag of ATTACK 0");
        // With EARS 0 a REST is where lift is 0: at -k and at k alone.
        for (int k = 1; k <= 8; k++) {
            StringBuilder law = new StringBuilder("lift");
            for (int i = 0; i <= 8; i++) {
                law.append(i == k ? " 0" : " 99");
            }
            DartHangar h = Check.hangar(law.append(';').toString());
            check.due(100 - k, h.rest(1, 0, 0), "the REST where the lift of " + k + " is 0");
            check.due(100 + k, h.rest(1, 0, h.rest(1, 0, -1) - 1), "the last REST where the lift of " + k + " is 0");
        }
    }

    private static void boundsOfALaw() {
        check.says(5, "pull 1 to 50, thin 1 to 99, turn 0 to 99, slow 0 to 9, roof 10 to 99.");
        Object[][] bounds = {{"pull", 1, 50}, {"thin", 1, 99}, {"turn", 0, 99}, {"slow", 0, 9}, {"roof", 10, 99}};
        for (int i = 0; i < bounds.length; i++) {
            String word = (String) bounds[i][0];
            int least = (Integer) bounds[i][1];
            int most = (Integer) bounds[i][2];
            DartHangar h = new DartHangar();
            check.due(1, Check.law(h, word + " " + least + ";"), word + " " + least);
            check.due(least, h.count(5 + i), word);
            check.due(1, Check.law(h, word + " " + most + ";"), word + " " + most);
            check.due(most, h.count(5 + i), word);
            if (least > 0) {
                dueFault(3, 5, word + " " + (least - 1) + ";", false);
            }
            dueFault(most < 99 ? 3 : 1, 5, word + " " + (most + 1) + ";", false);
        }
    }

    private static void laterOnesStrike() {
        check.says(5, "Later ones strike.");
        DartHangar h = Check.hangar("");
        check.due(10, Check.law(h, "pull 7;thin 7;turn 7;slow 7;roof 77;pull 8;thin 9;turn 6;slow 5;roof 44;"), "10 LINES");
        int[] want = {8, 9, 6, 5, 44};
        for (int i = 0; i < 5; i++) {
            check.due(want[i], h.count(5 + i), "count(" + (5 + i) + ")");
        }
        Check.law(h, "drag 99 9 9 9 9 9 9 9 9;lift 0 9 9 9 9 9 9 9 9;lift 9 0 9 9 9 9 9 9 9;drag 2 9 9 9 9 9 9 9 9;");
        check.due(500 - 37, h.at(1, 0, 500, 0, 1, 2), "VX by the later drag");
        check.due(99, h.rest(1, 0, 0), "the first REST by the later lift");
        check.due(101, h.rest(1, 0, 1), "the second REST by the later lift");
    }

    private static void withoutLines() {
        check.says(5, "Without (and at first): lift 0 10 20 30 40 45 40 25 10, drag 2 3 4 6 9 14 22 34 50, pull 10, thin 10, turn 10, slow 3, no roof.");
        String lift = "lift 0 10 20 30 40 45 40 25 10;";
        String drag = "drag 2 3 4 6 9 14 22 34 50;";
        DartHangar told = Check.hangar(lift + drag + "pull 10;thin 10;turn 10;slow 3;");
        DartHangar first = new DartHangar();
        Check.way(first, "");
        Check.way(first, "nose 2;");
        DartHangar again = Check.hangar("lift 9 9 9 9 9 9 9 9 9;drag 9 9 9 9 9 9 9 9 9;pull 9;thin 9;turn 9;slow 9;roof 22;");
        check.due(0, again.law(0), "a LAW of no LINE");
        int[] want = {10, 10, 10, 3, -1};
        for (int i = 0; i < 5; i++) {
            check.due(want[i], first.count(5 + i), "count(" + (5 + i) + ") at first");
            check.due(want[i], again.count(5 + i), "count(" + (5 + i) + ") of a LAW without LINES");
        }
        for (int e = -9; e <= 9; e += 2) {
            for (int what = 0; what <= 5; what++) {
                int due = told.fly(1, e, 300, 5, what);
                check.due(due, first.fly(1, e, 300, 5, what), "fly(1, " + e + ", 300, 5, " + what + ") at first");
                check.due(due, again.fly(1, e, 300, 5, what), "fly(1, " + e + ", 300, 5, " + what + ") without LINES");
            }
        }
        Check.law(again, lift);
        check.due(10, again.count(6), "thin beside lift alone");
        check.due(told.fly(1, 4, 300, 5, 0), again.fly(1, 4, 300, 5, 0), "FAR beside lift alone");
        Check.law(again, drag);
        check.due(told.fly(1, 4, 300, 5, 0), again.fly(1, 4, 300, 5, 0), "FAR beside drag alone");
    }

    // ---- promise 6

    /** Reads a text on a new object: the FAULT, its place, and what way() or law() answers of it. */
    private static void dueFault(int kind, int place, String text, boolean asWay) {
        DartHangar h = new DartHangar();
        int got = asWay ? Check.way(h, text) : Check.law(h, text);
        String told = (asWay ? "way of '" : "law of '") + text + "'";
        check.due(kind, h.fault(0), "the FAULT of the " + told);
        check.due(place, h.fault(1), "its place in the " + told);
        check.due(kind == 0 ? 0 : -10 - kind, kind == 0 ? Math.min(got, 0) : got, "the " + told);
    }

    private static void tokensAsLongAsTheyGo() {
        check.says(6, "TOKENS of both, as long as they go, between them blanks (10, 32)");
        dueFault(0, -1, " \n nose \n 1 \n ; \n side\n2\n;\n", true);
        dueFault(0, -1, "nose1;side02;", true);
        dueFault(0, -1, "pull1;lift1 2 3 4 5 6 7 8 9;", false);
        // One word, one number: they are not cut where a shorter one could stand.
        dueFault(2, 0, "nosenose 1;", true);
        dueFault(2, 0, "pullpull 1;", false);
        dueFault(2, 0, "noseside 1;", true);
        dueFault(3, 5, "nose 13;", true);
        dueFault(1, 5, "nose 111;", true);
        // A blank ends a TOKEN.
        dueFault(2, 0, "no se 1;", true);
        dueFault(2, 7, "nose 1 2;", true);
        dueFault(1, 5, "lift 123456789;", false);
        for (int b : new int[] {0, 9, 11, 12, 13, 31, 33, 127, 133, 160}) {
            dueFault(1, 4, "nose" + (char) b + "1;", true);
            dueFault(1, 4, "pull" + (char) b + "1;", false);
        }
    }

    private static void tokens() {
        check.says(6, "words (small letters), N (1 or 2 digits), the sign ;.");
        dueFault(0, -1, "nose 1;nose 12;nose 01;nose 09;", true);
        dueFault(0, -1, "slow 0;slow 00;slow 09;", false);
        // a and z are letters, what is beside them is none.
        dueFault(2, 0, "a", true);
        dueFault(2, 0, "z", true);
        dueFault(1, 0, "`", true);
        dueFault(1, 0, "{", true);
        dueFault(1, 0, "Nose 1;", true);
        dueFault(1, 0, "A", true);
        dueFault(1, 0, "Z", true);
        dueFault(1, 0, String.valueOf((char) 225), true);
        // 0 and 9 are digits, what is beside them is none; : stands beside ; too.
        dueFault(2, 0, "0", true);
        dueFault(2, 0, "9", true);
        dueFault(1, 0, "/", true);
        dueFault(1, 0, ":", true);
        dueFault(2, 0, ";", true);
        dueFault(1, 0, "<", true);
        dueFault(1, 5, "nose -1;", true);
        dueFault(1, 5, "pull +1;", false);
    }

    private static void firstFault() {
        check.says(6, "FAULTS, the first along the text, of one TOKEN the least kind");
        // Of several the first along the text, whatever their kinds are.
        dueFault(3, 5, "nose 0 !", true);
        dueFault(2, 4, "nose;123", true);
        dueFault(2, 0, "nOse 1;", true);
        dueFault(3, 5, "pull 0;thin 100;", false);
        dueFault(2, 7, "nose 1 side 0;!", true);
        // Of one TOKEN: a number that can't stand there is 2, whatever it is; one of three digits is 1.
        dueFault(2, 0, "99;", true);
        dueFault(2, 7, "nose 1 0;", true);
        dueFault(1, 0, "999;", true);
        dueFault(1, 7, "nose 1 999;", true);
        dueFault(2, 77, ELEVEN + "roof 1;", true);
        dueFault(2, 77, ELEVEN + ";", true);
        dueFault(2, 77, ELEVEN + "1", true);
        dueFault(1, 77, ELEVEN + "!", true);
        dueFault(1, 77, ELEVEN + "100", true);
    }

    private static void noToken() {
        check.says(6, "1 no TOKEN begins so (3 digits and more: at their first).");
        dueFault(1, 0, "!", true);
        dueFault(1, 5, "nose !", true);
        dueFault(1, 6, "nose 1!", true);
        dueFault(1, 6, "nose 1:", true);
        dueFault(1, 7, "nose 1;!", true);
        dueFault(1, 8, "nose 1; !", true);
        dueFault(1, 0, "123;", true);
        dueFault(1, 5, "nose 123;", true);
        dueFault(1, 5, "nose 000;", true);
        dueFault(1, 5, "nose 1234567890123456789012345678901234567890;", true);
        dueFault(1, 5, "pull 001;", false);
        dueFault(1, 21, "drag 1 2 3 4 5 6 7 8 100;", false);
        dueFault(1, 4, "pull\t1;", false);
    }

    private static void cannotStandThere() {
        check.says(6, "2 it can't stand there (the end: the text's length).");
        dueFault(2, 6, "nose 1", true);
        dueFault(2, 8, "nose 1  ", true);
        dueFault(2, 4, "nose", true);
        dueFault(2, 9, "nose    \n", true);
        dueFault(2, 13, "nose 1;side 1", true);
        dueFault(2, 22, "lift 1 2 3 4 5 6 7 8 9", false);
        dueFault(2, 6, "lift 1", false);
        dueFault(2, 13, "pull 3;thin 3", false);
        dueFault(2, 0, ";", true);
        dueFault(2, 7, "nose 1;;", true);
        dueFault(2, 0, "1;", true);
        dueFault(2, 7, "nose 1;pull 1;", true);
        dueFault(2, 7, "pull 1;nose 1;", false);
        dueFault(2, 5, "nose z", true);
        // The end of the text is n, not the tape's end.
        DartHangar h = new DartHangar();
        Check.feed(h, "nose 1;");
        check.due(-12, h.way(6), "way(6) of nose 1;");
        check.due(6, h.fault(1), "its place");
    }

    private static void outOfBounds() {
        check.says(6, "3 N is out of its bounds.");
        dueFault(3, 5, "nose 0;", true);
        dueFault(3, 5, "nose 00;", true);
        dueFault(3, 5, "nose 13;", true);
        dueFault(3, 5, "nose 99;", true);
        dueFault(3, 12, "nose 1;side 0;", true);
        dueFault(3, 5, "nose 0", true);
        dueFault(3, 5, "pull 51;", false);
        dueFault(3, 5, "slow 10;", false);
        dueFault(3, 5, "roof 9;", false);
        dueFault(3, 13, "slow 9; roof 09;", false);
    }

    private static void twelfthFold() {
        check.says(6, "4 the first TOKEN of a 12th FOLD.");
        dueFault(4, 77, ELEVEN + "nose 1;", true);
        dueFault(4, 78, ELEVEN + " side 1;", true);
        dueFault(4, 77, ELEVEN + "corner", true);
        dueFault(4, 77, ELEVEN + "side 0;!", true);
        dueFault(0, -1, ELEVEN + " \n ", true);
        dueFault(0, -1, ELEVEN, true);
        // THE LAW has no such bound.
        dueFault(0, -1, "slow 1;slow 1;slow 1;slow 1;slow 1;slow 1;slow 1;slow 1;slow 1;slow 1;slow 1;slow 1;slow 1;", false);
    }

    private static void latestReading() {
        check.says(6, "Of the latest way() or law() that read the tape");
        DartHangar h = new DartHangar();
        Check.way(h, "  side 0;");
        check.refused(Check.ARGUMENT, "way(9)", () -> h.way(9));
        check.refused(Check.ARGUMENT, "law(-1)", () -> h.law(-1));
        check.due(3, h.fault(0), "the FAULT behind calls that did not read");
        check.due(7, h.fault(1), "its place behind calls that did not read");
        Check.law(h, "x");
        check.due(2, h.fault(0), "the FAULT of a LAW");
        check.due(0, h.fault(1), "its place");
        for (int i = 0; i < 6; i++) {
            h.way(0);
            check.due(0, h.fault(0), "no FAULT behind a WAY");
            check.due(-1, h.fault(1), "no place behind a WAY");
        }
        Check.law(h, "pull 0;");
        check.due(3, h.fault(0), "the FAULT of another LAW");
        check.due(-1, h.way(0), "a seventh WAY");
        check.due(3, h.fault(0), "the FAULT behind a way() that read nothing");
        check.due(5, h.fault(1), "its place behind a way() that read nothing");
        check.due(0, h.law(0), "a LAW of no byte");
        check.due(0, h.fault(0), "no FAULT behind it");
    }

    private static void faultAndPlace() {
        check.says(6, "what 0: the FAULT (0 without, and at first), 1: its place (NONE without).");
        DartHangar h = new DartHangar();
        check.due(0, h.fault(0), "the FAULT at first");
        check.due(-1, h.fault(1), "its place at first");
        Check.way(h, "nose 1;!");
        check.due(1, h.fault(0), "a FAULT");
        check.due(7, h.fault(1), "its place");
        Check.law(h, "pull 3;");
        check.due(0, h.fault(0), "no FAULT");
        check.due(-1, h.fault(1), "no place");
    }

    private static void otherFaults() {
        check.says(6, "NONE for others.");
        DartHangar h = new DartHangar();
        Check.way(h, "nose 0;");
        check.due(-1, h.fault(2), "fault(2)");
        check.due(-1, h.fault(-1), "fault(-1)");
        for (int wild : Check.WILD) {
            check.due(-1, h.fault(wild), "fault(" + wild + ")");
        }
    }

    // ---- promise 7

    private static void howManyFolds() {
        check.says(7, "How many FOLDS a WAY has (i NONE)");
        DartHangar h = new DartHangar();
        Check.way(h, "");
        Check.way(h, "corner 12;");
        Check.way(h, ELEVEN);
        check.due(0, h.fold(0, -1), "FOLDS of an empty WAY");
        check.due(1, h.fold(1, -1), "FOLDS of a WAY without a MAKE");
        check.due(11, h.fold(2, -1), "FOLDS of a full WAY");
    }

    private static void foldByNumber() {
        check.says(7, "or 100 times the KIND (0 nose, 1 side, 2 corner) and N of the i-th");
        DartHangar h = new DartHangar();
        Check.way(h, "nose 12;side 3;corner 7;nose 1;");
        int[] want = {12, 103, 207, 1};
        for (int i = 0; i < 4; i++) {
            check.due(want[i], h.fold(0, i), "fold(0, " + i + ")");
        }
        Check.way(h, ELEVEN.substring(7) + "corner 12;");
        check.due(212, h.fold(1, 10), "the last of 11");
    }

    private static void notSoMany() {
        check.says(7, "NONE: not so many.");
        DartHangar h = new DartHangar();
        Check.way(h, "nose 12;side 3;");
        Check.way(h, "");
        Check.way(h, ELEVEN);
        check.due(-1, h.fold(0, 2), "fold(0, 2)");
        check.due(-1, h.fold(0, -2), "fold(0, -2)");
        check.due(-1, h.fold(1, 0), "fold(1, 0)");
        check.due(-1, h.fold(2, 11), "fold(2, 11)");
        for (int wild : Check.WILD) {
            check.due(-1, h.fold(2, wild), "fold(2, " + wild + ")");
        }
    }

    private static void noSuchWay() {
        check.says(7, "NoSuchElementException: no such WAY (as everywhere).");
        DartHangar h = new DartHangar();
        check.refused(Check.NO_ELEMENT, "fold(0, -1) without WAYS", () -> h.fold(0, -1));
        h.way(0);
        check.due(0, h.fold(0, -1), "fold(0, -1)");
        check.refused(Check.NO_ELEMENT, "fold(1, -1)", () -> h.fold(1, -1));
        check.refused(Check.NO_ELEMENT, "fold(-1, -1)", () -> h.fold(-1, -1));
        for (int wild : Check.WILD) {
            check.refused(Check.NO_ELEMENT, "fold(" + wild + ", 0)", () -> h.fold(wild, 0));
        }
    }
}

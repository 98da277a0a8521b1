/** Promises 1 to 10: the new object, the sheet, the tape, ways, laws, faults, makes. */
public final class SheetAndWaysTest {
    private static final Check check = new Check();

    public static void main(String[] args) {
        newObject();
        sheet();
        feed();
        way();
        law();
        fault();
        faultKinds();
        fold();
        breaks();
        make();
        layers();
        corner();
        check.end();
    }

    private static void newObject() {
        check.promise(1);
        DartHangar h = new DartHangar();
        int[] want = {0, 0, 8, 6, 0, 10, 10, 10, 3, -1, 0, 0, 0, 0};
        for (int what = 0; what < want.length; what++) {
            check.due(want[what], h.count(what), "count(" + what + ") of a new object");
        }
        check.due(0, h.fault(0), "fault(0)");
        check.due(-1, h.fault(1), "fault(1)");
        check.refused(Check.STATE, "write to a MISSING TRAY", () -> h.write(0, 0, 1));
        check.refused(Check.STATE, "write to a MISSING TRAY", () -> h.write(3, 0, 1));
        check.refused(Check.STATE, "restore of no IMAGE", () -> h.restore(2));
        check.refused(Check.NO_ELEMENT, "a WAY of a new object", () -> h.breaks(0));
        check.refused(Check.NO_ELEMENT, "a HAND of a new object", () -> h.best(0, true));
        check.refused(Check.NO_ELEMENT, "an ENTRY of a new object", () -> h.wins(0));
        check.due(-1, DartHangar.NONE, "NONE");
    }

    private static void sheet() {
        check.promise(2);
        DartHangar h = new DartHangar();
        Check.way(h, "");
        int[][] fine = {{4, 3}, {24, 12}, {4, 12}, {24, 3}, {9, 7}};
        for (int[] size : fine) {
            h.sheet(size[0], size[1]);
            check.due(size[0], h.count(2), "ROWS");
            check.due(size[1], h.count(3), "COLUMNS");
            check.due(size[0], h.make(0, 0), "ROWS of the empty WAY's MAKE");
            check.due(size[1], h.make(0, 1), "COLUMNS of the empty WAY's MAKE");
            check.due(size[0] * size[1], h.make(0, 3), "WEIGHT of the empty WAY's MAKE");
        }
        int[][] wrong = {{3, 6}, {25, 6}, {8, 2}, {8, 13}, {-1, 6}, {8, -1}, {Integer.MIN_VALUE, 3}, {4, Integer.MAX_VALUE}};
        for (int[] size : wrong) {
            check.refused(Check.ARGUMENT, "sheet(" + size[0] + ", " + size[1] + ")", () -> h.sheet(size[0], size[1]));
        }
        check.due(9, h.count(2), "ROWS behind refused sheets");
        check.due(7, h.count(3), "COLUMNS behind refused sheets");
    }

    private static void feed() {
        check.promise(3);
        DartHangar h = new DartHangar();
        check.due(20, h.feed(0x6e6f7365, 0x20313b73, 0x69646520, 0x323b2020, 0x20202020), "the first feed");
        check.due(20, h.count(4), "bytes on the tape");
        check.due(0, h.way(14), "way(14) of nose 1;side 2;");
        check.due(1, h.fold(0, 0), "its first FOLD");
        check.due(102, h.fold(0, 1), "its second FOLD");
        for (int i = 1; i <= 20; i++) {
            check.due(20 * i, h.feed(0, 0, 0, 0, 0), "feed number " + i);
        }
        check.due(-1, h.feed(1, 1, 1, 1, 1), "a feed beyond 400 bytes");
        check.due(400, h.count(4), "bytes on a full tape");
        check.due(-11, h.way(400), "zeros are no TOKENS");
        check.due(0, h.count(4), "bytes on the tape that was read");
        check.due(20, h.feed(0, 0, 0, 0, 0), "a feed behind that");
        DartHangar signs = new DartHangar();
        signs.feed(0x20202020, 0x202020ff, -1, Integer.MIN_VALUE, 0);
        check.due(-11, signs.way(20), "bytes above 127");
        check.due(7, signs.fault(1), "their place");
    }

    private static void way() {
        check.promise(4);
        DartHangar h = new DartHangar();
        check.refused(Check.ARGUMENT, "way(1) of an empty tape", () -> h.way(1));
        check.refused(Check.ARGUMENT, "way(-1)", () -> h.way(-1));
        check.due(0, h.way(0), "way(0)");
        Check.feed(h, "nose 1;side 1;");
        check.refused(Check.ARGUMENT, "way(21) of 20 bytes", () -> h.way(21));
        check.due(20, h.count(4), "the tape behind a refused way");
        check.due(1, h.way(7), "way(7)");
        check.due(0, h.count(4), "the tape behind a way");
        check.due(1, h.fold(1, -1), "FOLDS of the first 7 bytes");
        check.due(-12, Check.way(h, "nose;"), "a WAY with a FAULT");
        check.due(0, h.count(4), "the tape behind a FAULT");
        check.due(2, h.count(0), "WAYS behind a FAULT");
        check.due(2, Check.way(h, " \n nose 1 ;\nside\n2; "), "blanks between and around");
        check.due(102, h.fold(2, 1), "its second FOLD");
        check.due(3, Check.way(h, "nose1;corner02;"), "no blanks, a zero ahead");
        check.due(202, h.fold(3, 1), "its second FOLD");
        check.due(4, Check.way(h, "nose 1;nose 1;nose 1;nose 1;nose 1;nose 1;nose 1;nose 1;nose 1;nose 1;nose 12;"), "11 FOLDS");
        check.due(11, h.fold(4, -1), "11 FOLDS");
        check.due(5, Check.way(h, "  "), "a WAY of blanks");
        check.due(0, h.fold(5, -1), "its FOLDS");
        Check.feed(h, "nose 0;");
        check.due(-1, h.way(7), "a seventh WAY");
        check.due(20, h.count(4), "the tape stays");
        check.due(0, h.fault(0), "it was not read");
        check.refused(Check.ARGUMENT, "way(21) of 6 WAYS", () -> h.way(21));
        check.due(-12, h.law(7), "the same bytes as a LAW");
        DartHangar full = new DartHangar();
        StringBuilder text = new StringBuilder("nose 1;");
        while (text.length() < 393) {
            text.append(' ');
        }
        text.append("side 2;");
        check.due(0, Check.way(full, text.toString()), "a WAY of 400 bytes");
        check.due(102, full.fold(0, 1), "its last FOLD");
    }

    private static void law() {
        check.promise(5);
        DartHangar h = new DartHangar();
        check.due(5, Check.law(h, "pull 50;thin 99;turn 0;slow 9;roof 10;"), "5 LINES");
        int[] want = {50, 99, 0, 9, 10};
        for (int i = 0; i < 5; i++) {
            check.due(want[i], h.count(5 + i), "count(" + (5 + i) + ")");
        }
        check.due(2, Check.law(h, "pull 7;pull 8;"), "2 LINES");
        check.due(8, h.count(5), "later ones strike");
        check.due(10, h.count(6), "thin of a LAW without it");
        check.due(10, h.count(7), "turn of a LAW without it");
        check.due(3, h.count(8), "slow of a LAW without it");
        check.due(-1, h.count(9), "roof of a LAW without it");
        check.due(-13, Check.law(h, "thin 4;pull 0;"), "a LAW with a FAULT");
        check.due(8, h.count(5), "pull behind a FAULT");
        check.due(10, h.count(6), "thin behind a FAULT");
        check.due(0, h.count(4), "the tape behind a FAULT");
        check.due(0, h.law(0), "law(0)");
        check.due(10, h.count(5), "pull of an empty LAW");
        check.refused(Check.ARGUMENT, "law(1) of an empty tape", () -> h.law(1));
        check.refused(Check.ARGUMENT, "law(-1)", () -> h.law(-1));
        check.due(1, Check.law(h, "lift 99 0 1 2 3 4 5 6 99;"), "lift");
        Check.way(h, "nose 2;");
        // With EARS 0 a REST is where lift is 0: at -1 and at 1.
        check.due(2, h.rest(0, 0, -1), "RESTS by that lift");
        check.due(99, h.rest(0, 0, 0), "the first of them");
        check.due(101, h.rest(0, 0, 1), "the second of them");
        check.due(1, Check.law(h, "drag 99 0 1 2 3 4 5 6 98 ; "), "drag");
        // DRAG of ATTACK 0: 99 times 250 times 36 by (48 times 10) is 1856.
        check.due(500 - 1856, h.at(0, 0, 500, 0, 1, 2), "VX behind that drag");
    }

    private static void fault() {
        check.promise(6);
        DartHangar h = new DartHangar();
        check.due(-1, h.fault(2), "fault(2)");
        check.due(-1, h.fault(-1), "fault(-1)");
        Check.way(h, "  side 0;");
        check.due(3, h.fault(0), "a FAULT");
        check.due(7, h.fault(1), "its place");
        check.refused(Check.ARGUMENT, "way(9)", () -> h.way(9));
        check.due(3, h.fault(0), "the FAULT behind a way that did not read");
        h.image(0);
        Check.law(h, "pull 3;");
        check.due(0, h.fault(0), "no FAULT");
        check.due(-1, h.fault(1), "no place");
        h.restore(0);
        check.due(0, h.fault(0), "an IMAGE holds no FAULT");
        Check.law(h, "x");
        check.due(2, h.fault(0), "the FAULT of a LAW");
        check.due(0, h.fault(1), "its place");
    }

    private static void faultKinds() {
        check.promise(6);
        Object[][] ways = {
            {"nose 1", 2, 6}, {"nose 1  ", 2, 8}, {"nose", 2, 4}, {"nose 1;;", 2, 7}, {"noses 1;", 2, 0},
            {"nose 1 side 1;", 2, 7}, {"1;", 2, 0}, {";", 2, 0}, {"123;", 1, 0}, {"nose 1234;", 1, 5},
            {"nose 00;", 3, 5}, {"nose 13;", 3, 5}, {"nose 99;", 3, 5}, {"Nose 1;", 1, 0}, {"nOse 1;", 2, 0},
            {"nose\t1;", 1, 4}, {"nose 1:", 1, 6}, {"nose -1;", 1, 5}, {"nose 1;pull 1;", 2, 7}, {"nose nose;", 2, 5},
            {"nose 1 1;", 2, 7}, {"nose 0 x", 3, 5}, {"nose;123", 2, 4}, {"\rnose 1;", 1, 0}, {"side 1;{", 1, 7},
            {"side 1;`", 1, 7}, {"z", 2, 0}, {"a", 2, 0}, {"nose z", 2, 5}, {"nose 1/", 1, 6},
        };
        for (Object[] row : ways) {
            // nOse: the word n is read first, and can't stand there.
            read((String) row[0], (Integer) row[1], (Integer) row[2], true);
        }
        String eleven = "nose 1;nose 1;nose 1;nose 1;nose 1;nose 1;nose 1;nose 1;nose 1;nose 1;nose 1;";
        read(eleven + " side 1;", 4, 78, true);
        read(eleven + "side", 4, 77, true);
        read(eleven + "roof 1;", 2, 77, true);
        read(eleven + ";", 2, 77, true);
        read(eleven + "!", 1, 77, true);
        read(eleven + "100", 1, 77, true);
        read(eleven + "\n", 0, -1, true);
        Object[][] laws = {
            {"pull 0;", 3, 5}, {"pull 51;", 3, 5}, {"pull 1;", 0, -1}, {"pull 50;", 0, -1}, {"thin 0;", 3, 5},
            {"thin 1;", 0, -1}, {"turn 99;", 0, -1}, {"turn 0;", 0, -1}, {"slow 10;", 3, 5}, {"slow 9;", 0, -1},
            {"roof 9;", 3, 5}, {"roof 99;", 0, -1}, {"roof 100;", 1, 5}, {"lift 1 2 3 4 5 6 7 8;", 2, 20},
            {"lift 1 2 3 4 5 6 7 8 9 10;", 2, 23}, {"lift 1 2 3 4 5 6 7 8 9", 2, 22}, {"drag 1 2 3 4 5 6 7 8 100;", 1, 21},
            {"nose 1;", 2, 0}, {"pull 1 2;", 2, 7}, {"pull;", 2, 4}, {"pull", 2, 4}, {"lift", 2, 4}, {"pull 3;thin 3", 2, 13},
        };
        for (Object[] row : laws) {
            read((String) row[0], (Integer) row[1], (Integer) row[2], false);
        }
    }

    private static void read(String text, int kind, int place, boolean asWay) {
        DartHangar h = new DartHangar();
        int got = asWay ? Check.way(h, text) : Check.law(h, text);
        String told = (asWay ? "way" : "law") + " of '" + text + "'";
        if (kind != 0) {
            check.due(-10 - kind, got, told);
        }
        check.due(kind, h.fault(0), "the FAULT of the " + told);
        check.due(place, h.fault(1), "its place in the " + told);
    }

    private static void fold() {
        check.promise(7);
        DartHangar h = new DartHangar();
        Check.way(h, "nose 12;side 3;corner 7;");
        check.due(3, h.fold(0, -1), "how many");
        check.due(12, h.fold(0, 0), "nose 12");
        check.due(103, h.fold(0, 1), "side 3");
        check.due(207, h.fold(0, 2), "corner 7");
        check.due(-1, h.fold(0, 3), "not so many");
        check.due(-1, h.fold(0, -2), "fold(0, -2)");
        check.due(-1, h.fold(0, Integer.MAX_VALUE), "fold of the greatest int");
        check.refused(Check.NO_ELEMENT, "fold(1, 0)", () -> h.fold(1, 0));
        check.refused(Check.NO_ELEMENT, "fold(-1, 0)", () -> h.fold(-1, 0));
    }

    private static void breaks() {
        check.promise(8);
        DartHangar h = new DartHangar();
        check.refused(Check.NO_ELEMENT, "breaks(0)", () -> h.breaks(0));
        Object[][] rows = {
            {"nose 4;", -1}, {"nose 5;", 0}, {"side 3;", -1}, {"side 4;", 0}, {"corner 6;", -1}, {"corner 7;", 0},
            {"corner 1;", 0}, {"corner 2;", -1}, {"nose 4;nose 2;nose 1;nose 1;", 3}, {"nose 4;corner 5;", 1}, {"nose 4;corner 4;", -1},
        };
        for (Object[] row : rows) {
            DartHangar one = new DartHangar();
            Check.way(one, (String) row[0]);
            check.due((Integer) row[1], one.breaks(0), "breaks of " + row[0]);
        }
        // 8 by 8 CELLS folded three times each way: 64 LAYERS would lie in one CELL, 32 may.
        DartHangar thick = new DartHangar();
        thick.sheet(8, 8);
        Check.way(thick, "nose 4;nose 2;nose 1;side 4;side 2;");
        check.due(-1, thick.breaks(0), "32 LAYERS");
        check.due(32, thick.layers(0, 0, 0), "32 LAYERS");
        Check.way(thick, "nose 4;nose 2;nose 1;side 4;side 2;side 1;");
        check.due(5, thick.breaks(1), "64 LAYERS");
        check.refused(Check.STATE, "make of 64 LAYERS", () -> thick.make(1, 0));
        thick.sheet(4, 8);
        check.due(0, thick.breaks(0), "a SHEET of 4 ROWS");
    }

    private static void make() {
        check.promise(9);
        DartHangar h = new DartHangar();
        Check.way(h, "nose 2;");
        int[] want = {6, 6, 36, 48, 240, 216, 10};
        for (int what = 0; what <= 6; what++) {
            check.due(want[what], h.make(0, what), "make(0, " + what + ") of nose 2");
        }
        check.refused(Check.ARGUMENT, "make(0, 7)", () -> h.make(0, 7));
        check.refused(Check.ARGUMENT, "make(0, -1)", () -> h.make(0, -1));
        Check.way(h, "nose 5;");
        check.refused(Check.STATE, "make(1, 7): there is no MAKE", () -> h.make(1, 7));
        check.refused(Check.NO_ELEMENT, "make(2, 7)", () -> h.make(2, 7));
        check.refused(Check.NO_ELEMENT, "make(-1, 0)", () -> h.make(-1, 0));
        // side 3 changes nothing along the ROWS: S 24, W 48, G 384, H 192.
        Check.way(h, "side 3;");
        int[] half = {8, 3, 24, 48, 384, 192, 0};
        for (int what = 0; what <= 6; what++) {
            check.due(half[what], h.make(2, what), "make(2, " + what + ") of side 3");
        }
        // A corner lays LAYERS backwards: 4 by 3 CELLS, corner 3: (0,2) to (2,0), (0,1) to (1,0), (1,2) to (2,1).
        DartHangar small = new DartHangar();
        small.sheet(4, 3);
        Check.way(small, "corner 3;");
        int[] bent = {4, 3, 9, 12, 56, 43, 1};
        for (int what = 0; what <= 6; what++) {
            check.due(bent[what], small.make(0, what), "make(0, " + what + ") of corner 3");
        }
    }

    private static void layers() {
        check.promise(10);
        DartHangar h = new DartHangar();
        Check.way(h, "nose 3;side 2;");
        int[][] want = {{2, 2, 4, 4}, {2, 2, 4, 4}, {2, 2, 4, 4}, {1, 1, 2, 2}, {1, 1, 2, 2}};
        for (int r = 0; r < 5; r++) {
            for (int c = 0; c < 4; c++) {
                check.due(want[r][c], h.layers(0, r, c), "layers(0, " + r + ", " + c + ")");
            }
        }
        check.due(-1, h.layers(0, 5, 0), "a ROW too many");
        check.due(-1, h.layers(0, 0, 4), "a COLUMN too many");
        check.due(-1, h.layers(0, -1, 0), "ROW -1");
        check.due(-1, h.layers(0, 0, -1), "COLUMN -1");
        check.due(-1, h.layers(0, Integer.MAX_VALUE, Integer.MAX_VALUE), "far off");
        Check.way(h, "corner 12;");
        check.refused(Check.STATE, "layers without a MAKE", () -> h.layers(1, 0, 0));
        check.refused(Check.NO_ELEMENT, "layers of no WAY", () -> h.layers(2, 0, 0));
    }

    private static void corner() {
        check.promise(10);
        DartHangar h = new DartHangar();
        h.sheet(5, 4);
        Check.way(h, "corner 3;nose 1;");
        // corner 3: (0,3) lies on (2,1), (0,2) on (1,1), (1,3) on (2,2); then ROW 0 lies on ROW 1.
        int[][] want = {{2, 3, 1, 0}, {1, 2, 2, 1}, {1, 1, 1, 1}, {1, 1, 1, 1}};
        for (int r = 0; r < 4; r++) {
            for (int c = 0; c < 4; c++) {
                check.due(want[r][c], h.layers(0, r, c), "layers(0, " + r + ", " + c + ") of corner 3, nose 1");
            }
        }
        check.due(15, h.make(0, 2), "AREA: a CELL without LAYERS does not count");
        Check.way(h, "corner 2;corner 2;");
        check.due(0, h.layers(1, 0, 3), "the corner");
        check.due(2, h.layers(1, 1, 2), "what lies on it");
    }
}

/** Promises 1, 2, 8, 9 and 10: a new object, the sheet, its folds, what they make of it. */
public final class SheetTest {
    private static final Check check = new Check();

    public static void main(String[] args) {
        sheetAndLawAtFirst();
        noWaysNoHands();
        traysMissing();
        emptyTape();
        none();
        fiveHundredTwelveCalls();

        sheet();
        columns();
        rows();
        wrongSheet();
        oneLayer();

        noseBounds();
        noseLays();
        sideBounds();
        sideLays();
        cornerBounds();
        cornerLays();
        layingAdds();
        mostLayers();
        firstThatCannotBe();
        noBreak();

        makeOfTheSheetAsItIs();
        area();
        weight();
        front();
        wing();
        lever();
        whatOfAMake();
        noMake();
        anotherWhat();

        layersOfACell();
        noSuchCell();
        check.end();
    }

    // ---- promise 1

    private static void sheetAndLawAtFirst() {
        check.says(1, "THE SHEET and THE LAW as at first");
        DartHangar h = new DartHangar();
        int[] want = {0, 0, 8, 6, 0, 10, 10, 10, 3, -1, 0, 0, 0, 0};
        for (int what = 0; what < want.length; what++) {
            check.due(want[what], h.count(what), "count(" + what + ") of a new object");
        }
    }

    private static void noWaysNoHands() {
        check.says(1, "no WAYS, HANDS");
        DartHangar h = new DartHangar();
        check.refused(Check.NO_ELEMENT, "fold(0, -1)", () -> h.fold(0, -1));
        check.refused(Check.NO_ELEMENT, "breaks(0)", () -> h.breaks(0));
        check.refused(Check.NO_ELEMENT, "toss(0, 10, 0, 1)", () -> h.toss(0, 10, 0, 1));
        check.refused(Check.NO_ELEMENT, "best(0, true)", () -> h.best(0, true));
        check.refused(Check.NO_ELEMENT, "wins(0)", () -> h.wins(0));
        check.due(0, h.hand(), "the first HAND's number");
        check.due(0, h.way(0), "the first WAY's number");
    }

    private static void traysMissing() {
        check.says(1, "TRAYS are MISSING");
        DartHangar h = new DartHangar();
        h.hand();
        for (int i = 0; i < 4; i++) {
            int tray = i;
            check.refused(Check.STATE, "write(" + i + ", 0, 1)", () -> h.write(tray, 0, 1));
            check.refused(Check.STATE, "take(" + i + ", 0)", () -> h.take(tray, 0));
        }
    }

    private static void emptyTape() {
        check.says(1, "an empty tape");
        DartHangar h = new DartHangar();
        check.due(0, h.count(4), "bytes on the tape");
        check.refused(Check.ARGUMENT, "way(1)", () -> h.way(1));
        check.refused(Check.ARGUMENT, "law(1)", () -> h.law(1));
        check.due(20, h.feed(0, 0, 0, 0, 0), "the first feed");
    }

    private static void none() {
        check.says(1, "The constants: `NONE = -1`: There is none.");
        check.due(-1, DartHangar.NONE, "NONE");
    }

    private static void fiveHundredTwelveCalls() {
        check.says(1, "An object is used for at most 512 calls after it has been made");
        DartHangar h = new DartHangar();
        h.way(0);
        for (int i = 2; i <= 510; i++) {
            h.image(i % 3);
        }
        check.due(1, h.count(0), "call 511");
        check.due(48, h.make(0, 3), "call 512");
    }

    // ---- promise 2

    private static void sheet() {
        check.says(2, "THE SHEET.");
        DartHangar h = Check.folded(8, 6, "");
        int[][] fine = {{4, 3}, {24, 12}, {4, 12}, {24, 3}, {9, 7}};
        for (int[] size : fine) {
            h.sheet(size[0], size[1]);
            check.due(size[0], h.count(2), "ROWS");
            check.due(size[1], h.count(3), "COLUMNS");
            check.due(size[0], h.make(0, 0), "ROWS of the empty WAY's MAKE");
            check.due(size[1], h.make(0, 1), "COLUMNS of the empty WAY's MAKE");
            check.due(size[0] * size[1], h.make(0, 3), "WEIGHT of the empty WAY's MAKE");
        }
    }

    private static void columns() {
        check.says(2, "THE SHEET is one half of a sheet: COLUMNS from 0 at the middle outwards (3 to 12; 6 at first)");
        DartHangar h = new DartHangar();
        check.due(6, h.count(3), "COLUMNS at first");
        check.refused(Check.ARGUMENT, "2 COLUMNS", () -> h.sheet(8, 2));
        h.sheet(8, 3);
        check.due(3, h.count(3), "the fewest COLUMNS");
        h.sheet(8, 12);
        check.due(12, h.count(3), "the most COLUMNS");
        check.refused(Check.ARGUMENT, "13 COLUMNS", () -> h.sheet(8, 13));
        // COLUMN 0 is at the middle: the outermost one, 11, comes onto 10.
        Check.way(h, "side 1;");
        check.due(1, h.layers(0, 0, 0), "LAYERS at the middle");
        check.due(2, h.layers(0, 0, 10), "LAYERS at the outside");
    }

    private static void rows() {
        check.says(2, "ROWS from 0 at the front backwards (4 to 24; 8).");
        DartHangar h = new DartHangar();
        check.due(8, h.count(2), "ROWS at first");
        check.refused(Check.ARGUMENT, "3 ROWS", () -> h.sheet(3, 6));
        h.sheet(4, 6);
        check.due(4, h.count(2), "the fewest ROWS");
        h.sheet(24, 6);
        check.due(24, h.count(2), "the most ROWS");
        check.refused(Check.ARGUMENT, "25 ROWS", () -> h.sheet(25, 6));
        // ROW 0 is at the front: the nose comes onto what is ROW 0 then.
        Check.way(h, "nose 1;");
        check.due(2, h.layers(0, 0, 0), "LAYERS at the front");
        check.due(1, h.layers(0, 22, 0), "LAYERS at the back");
    }

    private static void wrongSheet() {
        check.says(2, "IllegalArgumentException: ROWS, COLUMNS.");
        DartHangar h = new DartHangar();
        h.sheet(9, 7);
        int[][] wrong = {{3, 6}, {25, 6}, {8, 2}, {8, 13}, {0, 6}, {8, 0}, {-4, 6}, {8, -3}, {3, 2}, {25, 13}};
        for (int[] size : wrong) {
            check.refused(Check.ARGUMENT, "sheet(" + size[0] + ", " + size[1] + ")", () -> h.sheet(size[0], size[1]));
        }
        for (int wild : Check.WILD) {
            check.refused(Check.ARGUMENT, "sheet(" + wild + ", 6)", () -> h.sheet(wild, 6));
            check.refused(Check.ARGUMENT, "sheet(8, " + wild + ")", () -> h.sheet(8, wild));
        }
        check.due(9, h.count(2), "ROWS behind refused sheets");
        check.due(7, h.count(3), "COLUMNS behind refused sheets");
    }

    private static void oneLayer() {
        check.says(10, "Each CELL has 1 LAYER.");
        DartHangar h = Check.folded(24, 12, "");
        for (int r = 0; r < 24; r++) {
            for (int c = 0; c < 12; c++) {
                check.due(1, h.layers(0, r, c), "layers(0, " + r + ", " + c + ")");
            }
        }
    }

    // ---- promise 8, and the FOLDS

    private static void dueBreak(int want, int rows, int columns, String text) {
        DartHangar h = Check.folded(rows, columns, text);
        check.due(want, h.breaks(0), "breaks of " + text + " on " + rows + " by " + columns);
    }

    private static void noseBounds() {
        check.says(8, "FOLDS, with R ROWS and C COLUMNS left: nose n (1 to R by 2, rounded down)");
        for (int rows = 4; rows <= 24; rows++) {
            dueBreak(-1, rows, 3, "nose 1;");
            dueBreak(-1, rows, 3, "nose " + rows / 2 + ";");
            if (rows / 2 < 12) {
                dueBreak(0, rows, 3, "nose " + (rows / 2 + 1) + ";");
            }
        }
        // The ROWS left count, not those of THE SHEET: 8, 4, 2, 1.
        dueBreak(-1, 8, 3, "nose 4;nose 2;nose 1;");
        dueBreak(1, 8, 3, "nose 4;nose 3;");
        dueBreak(3, 8, 3, "nose 4;nose 2;nose 1;nose 1;");
    }

    private static void dueLayers(int rows, int columns, String text, int[][] want) {
        DartHangar h = Check.folded(rows, columns, text);
        String told = text + " on " + rows + " by " + columns;
        check.due(want.length, h.make(0, 0), "ROWS of " + told);
        check.due(want[0].length, h.make(0, 1), "COLUMNS of " + told);
        for (int r = 0; r < want.length; r++) {
            for (int c = 0; c < want[r].length; c++) {
                check.due(want[r][c], h.layers(0, r, c), "layers(0, " + r + ", " + c + ") of " + told);
            }
        }
    }

    private static void noseLays() {
        check.says(10, "ROW k (0 to n less 1) is laid onto ROW 2n - 1 - k, then ROWS 0 to n - 1 are gone, the others are numbered anew from 0.");
        dueLayers(4, 3, "nose 1;", new int[][] {{2, 2, 2}, {1, 1, 1}, {1, 1, 1}});
        dueLayers(4, 3, "nose 2;", new int[][] {{2, 2, 2}, {2, 2, 2}});
        dueLayers(5, 3, "nose 2;", new int[][] {{2, 2, 2}, {2, 2, 2}, {1, 1, 1}});
        // ROWS that differ: corner 2 takes the outer CELL of ROW 0 to ROW 1. ROW 0 comes onto ROW 3, ROW 1 onto ROW 2.
        dueLayers(4, 3, "corner 2;nose 2;", new int[][] {{2, 3, 2}, {2, 2, 1}});
        // nose 1, then nose 1 again: 1 and 1, then those 2 and 1.
        dueLayers(4, 3, "nose 1;nose 1;", new int[][] {{3, 3, 3}, {1, 1, 1}});
    }

    private static void sideBounds() {
        check.says(8, "side n (1 to C by 2)");
        for (int columns = 3; columns <= 12; columns++) {
            dueBreak(-1, 4, columns, "side 1;");
            dueBreak(-1, 4, columns, "side " + columns / 2 + ";");
            dueBreak(0, 4, columns, "side " + (columns / 2 + 1) + ";");
        }
        dueBreak(-1, 24, 12, "side 6;");
        dueBreak(-1, 24, 12, "nose 12;side 6;side 3;");
        dueBreak(-1, 4, 8, "side 4;side 2;side 1;");
        dueBreak(1, 4, 8, "side 4;side 3;");
        dueBreak(3, 4, 8, "side 4;side 2;side 1;side 1;");
    }

    private static void sideLays() {
        check.says(10, "COLUMN C - 1 - k is laid onto COLUMN C - 2n + k, then the n outer ones are gone");
        dueLayers(4, 3, "side 1;", new int[][] {{1, 2}, {1, 2}, {1, 2}, {1, 2}});
        dueLayers(4, 5, "side 2;", new int[][] {{1, 2, 2}, {1, 2, 2}, {1, 2, 2}, {1, 2, 2}});
        // COLUMNS that differ: ROW 0 is 1 1 1 0, ROW 1 is 1 1 2 1; 3 comes onto 0, 2 onto 1.
        dueLayers(4, 4, "corner 2;side 2;", new int[][] {{1, 2}, {2, 3}, {2, 2}, {2, 2}});
        dueLayers(4, 4, "side 1;side 1;", new int[][] {{1, 3}, {1, 3}, {1, 3}, {1, 3}});
    }

    private static void cornerBounds() {
        check.says(8, "corner n (2 to the less of R and C)");
        for (int rows = 4; rows <= 14; rows++) {
            for (int columns = 3; columns <= 12; columns++) {
                int less = Math.min(rows, columns);
                dueBreak(0, rows, columns, "corner 1;");
                dueBreak(-1, rows, columns, "corner 2;");
                dueBreak(-1, rows, columns, "corner " + less + ";");
                if (less < 12) {
                    dueBreak(0, rows, columns, "corner " + (less + 1) + ";");
                }
            }
        }
        // The ROWS and COLUMNS left count: 4 ROWS, then 3 COLUMNS, then 1 ROW.
        dueBreak(-1, 8, 6, "nose 4;corner 4;");
        dueBreak(1, 8, 6, "nose 4;corner 5;");
        dueBreak(-1, 8, 6, "side 3;corner 3;");
        dueBreak(1, 8, 6, "side 3;corner 4;");
        dueBreak(3, 8, 6, "nose 4;nose 2;nose 1;corner 2;");
    }

    private static void cornerLays() {
        check.says(10, "a CELL in ROW r, d COLUMNS from the outermost one, r and d together less than n - 1, is laid onto that in"
            + " ROW n - 1 - d, n - 1 - r COLUMNS from the outermost one, and has no LAYERS then.");
        // (0,2) comes onto (1,1).
        dueLayers(4, 3, "corner 2;", new int[][] {{1, 1, 0}, {1, 2, 1}, {1, 1, 1}, {1, 1, 1}});
        // (0,2) onto (2,0), (0,1) onto (1,0), (1,2) onto (2,1).
        dueLayers(4, 3, "corner 3;", new int[][] {{1, 0, 0}, {2, 1, 0}, {2, 2, 1}, {1, 1, 1}});
        // (0,3) onto (3,0), (0,2) onto (2,0), (0,1) onto (1,0), (1,3) onto (3,1), (1,2) onto (2,1), (2,3) onto (3,2).
        dueLayers(5, 4, "corner 4;", new int[][] {{1, 0, 0, 0}, {2, 1, 0, 0}, {2, 2, 1, 0}, {2, 2, 2, 1}, {1, 1, 1, 1}});
        // corner 3 again takes the 2 of (1,0): (0,1), (0,2), (1,2) have none to bring, (0,0) is not within it.
        dueLayers(4, 3, "corner 3;corner 3;", new int[][] {{1, 0, 0}, {2, 1, 0}, {2, 2, 1}, {1, 1, 1}});
        // corner 3 of 5 by 4: (0,3) onto (2,1), (0,2) onto (1,1), (1,3) onto (2,2); then ROW 0 onto ROW 1.
        dueLayers(5, 4, "corner 3;nose 1;", new int[][] {{2, 3, 1, 0}, {1, 2, 2, 1}, {1, 1, 1, 1}, {1, 1, 1, 1}});
    }

    private static void layingAdds() {
        check.says(10, "(To lay: LAYERS come to those there.)");
        // 2 come to 2, then 4 to 4, and a corner of 8 to 8.
        dueLayers(8, 3, "nose 4;nose 2;", new int[][] {{4, 4, 4}, {4, 4, 4}});
        dueLayers(8, 4, "nose 4;nose 2;side 2;", new int[][] {{8, 8}, {8, 8}});
        dueLayers(8, 4, "nose 4;nose 2;side 2;corner 2;", new int[][] {{8, 0}, {16, 8}});
        // Onto a CELL without LAYERS: ROW 0 is 1 0 0 behind corner 3, ROW 1 is 2 1 0.
        dueLayers(4, 3, "corner 3;nose 1;", new int[][] {{3, 1, 0}, {2, 2, 1}, {1, 1, 1}});
    }

    private static void mostLayers() {
        check.says(8, "A FOLD can't be, if n isn't one of these, or a CELL would have more than 32 LAYERS.");
        dueBreak(0, 8, 6, "nose 5;");
        dueBreak(0, 8, 6, "side 4;");
        dueBreak(0, 8, 6, "corner 7;");
        dueBreak(0, 8, 6, "corner 1;");
        // By each KIND: the last FOLD brings two CELLS together that have just 32 LAYERS, or just one more.
        dueTogether(32, 13, 8, "nose 6;nose 3;side 3;side 1;", "nose 2;");
        dueTogether(33, 18, 11, "side 2;side 3;nose 4;nose 4;corner 4;", "nose 3;");
        dueTogether(32, 19, 12, "nose 6;nose 3;side 5;nose 1;", "side 2;");
        dueTogether(33, 11, 12, "nose 5;nose 3;nose 1;nose 1;side 3;", "side 3;");
        dueTogether(32, 19, 12, "side 5;nose 6;nose 2;side 2;", "corner 2;");
        dueTogether(33, 15, 11, "side 4;nose 4;side 2;side 1;nose 2;", "corner 4;");
    }

    /** The most LAYERS that the last FOLD brings together are so many, worked out from those ahead of it. */
    private static void dueTogether(int many, int rows, int columns, String ahead, String last) {
        DartHangar h = Check.folded(rows, columns, ahead);
        check.due(-1, h.breaks(0), "breaks of " + ahead);
        int n = last.charAt(last.length() - 2) - '0';
        int rowsLeft = h.make(0, 0);
        int columnsLeft = h.make(0, 1);
        int most = 0;
        for (int r = 0; r < rowsLeft; r++) {
            for (int c = 0; c < columnsLeft; c++) {
                int d = columnsLeft - 1 - c;
                int other = 0;
                if (last.startsWith("nose") && r < n) {
                    other = h.layers(0, 2 * n - 1 - r, c);
                } else if (last.startsWith("side") && d < n) {
                    other = h.layers(0, r, columnsLeft - 2 * n + d);
                } else if (last.startsWith("corner") && r + d < n - 1) {
                    other = h.layers(0, n - 1 - d, columnsLeft - 1 - (n - 1 - r));
                }
                most = Math.max(most, h.layers(0, r, c) + other);
            }
        }
        check.due(many, most, "the most LAYERS by " + ahead + last);
        Check.way(h, ahead + last);
        int folds = h.fold(1, -1);
        check.due(many > 32 ? folds - 1 : -1, h.breaks(1), "breaks of " + ahead + last);
    }

    private static void firstThatCannotBe() {
        check.says(8, "The number of the first FOLD that can't be");
        dueBreak(0, 8, 6, "nose 5;nose 5;");
        dueBreak(1, 8, 6, "nose 4;nose 5;nose 6;");
        dueBreak(10, 12, 6, "nose 1;nose 1;nose 1;nose 1;nose 1;nose 1;nose 1;nose 1;nose 1;nose 1;nose 12;");
    }

    private static void noBreak() {
        check.says(8, "NONE: the WAY has a MAKE.");
        dueBreak(-1, 8, 6, "");
        dueBreak(-1, 12, 6, "nose 1;nose 1;nose 1;nose 1;nose 1;nose 1;nose 1;nose 1;nose 1;nose 1;nose 1;");
        DartHangar h = Check.folded(8, 6, "nose 4;");
        check.due(-1, h.breaks(0), "breaks of nose 4 on 8 ROWS");
        h.sheet(7, 6);
        check.due(0, h.breaks(0), "breaks of nose 4 on 7 ROWS");
    }

    // ---- promise 9

    private static void makeOfTheSheetAsItIs() {
        check.says(9, "MAKE of a WAY: what all its FOLDS, one behind the other, make of THE SHEET as it is; none, if one of them can't be.");
        DartHangar h = Check.folded(8, 6, "nose 2;side 3;");
        check.due(6, h.make(0, 0), "ROWS of nose 2;side 3;");
        check.due(3, h.make(0, 1), "COLUMNS of nose 2;side 3;");
        h.sheet(4, 7);
        check.due(2, h.make(0, 0), "ROWS on another SHEET");
        check.due(4, h.make(0, 1), "COLUMNS on another SHEET");
        h.sheet(4, 5);
        check.refused(Check.STATE, "make where side 3 can't be", () -> h.make(0, 0));
        h.sheet(8, 6);
        check.due(6, h.make(0, 0), "ROWS on the first SHEET again");
    }

    private static void area() {
        check.says(9, "Of a MAKE: AREA S: CELLS with LAYERS");
        check.due(48, Check.folded(8, 6, "").make(0, 2), "AREA of the whole SHEET");
        check.due(12 - 3, Check.folded(4, 3, "corner 3;").make(0, 2), "AREA: CELLS without LAYERS do not count");
        check.due(288 - 66, Check.folded(24, 12, "corner 12;").make(0, 2), "AREA of the greatest corner");
        check.due(1, Check.folded(8, 4, "nose 4;nose 2;nose 1;side 2;side 1;").make(0, 2), "AREA of one CELL");
    }

    private static void weight() {
        check.says(9, "WEIGHT W: all LAYERS");
        check.due(48, Check.folded(8, 6, "").make(0, 3), "WEIGHT of the whole SHEET");
        check.due(12, Check.folded(4, 3, "corner 3;nose 2;side 1;").make(0, 3), "WEIGHT: no LAYER is lost");
        check.due(32, Check.folded(8, 4, "nose 4;nose 2;nose 1;side 2;side 1;").make(0, 3), "WEIGHT of one CELL");
    }

    private static void front() {
        check.says(9, "FRONT G: the sum, over all CELLS, of LAYERS times (2 ROW + 1)");
        // 6 (1 + 3 + .. + 15) = 6 64.
        check.due(384, Check.folded(8, 6, "").make(0, 4), "FRONT of the whole SHEET");
        // ROWS of 1, 3, 5, 3 LAYERS: 1 + 9 + 25 + 21.
        check.due(56, Check.folded(4, 3, "corner 3;").make(0, 4), "FRONT of corner 3");
        check.due(32, Check.folded(8, 4, "nose 4;nose 2;nose 1;side 2;side 1;").make(0, 4), "FRONT of one CELL");
    }

    private static void wing() {
        check.says(9, "WING H: the sum of (2 ROW + 1) over CELLS with LAYERS");
        check.due(384, Check.folded(8, 6, "").make(0, 5), "WING of the whole SHEET");
        // ROWS of 1, 2, 3, 3 CELLS: 1 + 6 + 15 + 21.
        check.due(43, Check.folded(4, 3, "corner 3;").make(0, 5), "WING of corner 3");
        check.due(1, Check.folded(8, 4, "nose 4;nose 2;nose 1;side 2;side 1;").make(0, 5), "WING of one CELL");
    }

    private static void lever() {
        check.says(9, "LEVER: 10 times (H W - G S) by S W, cut towards 0.");
        check.due(0, Check.folded(8, 6, "").make(0, 6), "LEVER of the whole SHEET");
        // 10 (216 48 - 240 36) by 36 48.
        check.due(10, Check.folded(8, 6, "nose 2;").make(0, 6), "LEVER of nose 2");
        // 10 (43 12 - 56 9) by 9 12: 120 by 108.
        check.due(1, Check.folded(4, 3, "corner 3;").make(0, 6), "LEVER of corner 3");
        // LAYERS 1 0, 2 1, 2 3, 3 4: S 7, W 16, G 84, H 31: -920 by 112.
        check.due(-8, Check.folded(4, 4, "corner 4;side 2;").make(0, 6), "a LEVER below 0");
    }

    private static void whatOfAMake() {
        check.says(9, "Of a MAKE, what 0: ROWS, 1: COLUMNS, 2: AREA, 3: WEIGHT, 4: FRONT, 5: WING, 6: LEVER.");
        DartHangar h = Check.folded(8, 6, "nose 2;");
        int[] want = {6, 6, 36, 48, 240, 216, 10};
        // side 3 changes nothing along the ROWS: S 24, W 48, G 384, H 192.
        Check.way(h, "side 3;");
        int[] half = {8, 3, 24, 48, 384, 192, 0};
        for (int what = 0; what <= 6; what++) {
            check.due(want[what], h.make(0, what), "make(0, " + what + ") of nose 2");
            check.due(half[what], h.make(1, what), "make(1, " + what + ") of side 3");
        }
    }

    private static void noMake() {
        check.says(9, "IllegalStateException: there is none (as everywhere)");
        DartHangar h = Check.folded(8, 6, "nose 5;");
        for (int what = -1; what <= 7; what++) {
            int told = what;
            check.refused(Check.STATE, "make(0, " + what + ") without a MAKE", () -> h.make(0, told));
        }
        h.sheet(10, 6);
        check.due(5, h.make(0, 0), "make(0, 0) where nose 5 can be");
    }

    private static void anotherWhat() {
        check.says(9, "IllegalArgumentException: another what.");
        DartHangar h = Check.folded(8, 6, "nose 2;");
        check.refused(Check.ARGUMENT, "make(0, 7)", () -> h.make(0, 7));
        check.refused(Check.ARGUMENT, "make(0, -1)", () -> h.make(0, -1));
        for (int wild : Check.WILD) {
            check.refused(Check.ARGUMENT, "make(0, " + wild + ")", () -> h.make(0, wild));
        }
    }

    // ---- promise 10

    private static void layersOfACell() {
        check.says(10, "LAYERS of a CELL of a MAKE");
        dueLayers(8, 6, "nose 3;side 2;", new int[][] {{2, 2, 4, 4}, {2, 2, 4, 4}, {2, 2, 4, 4}, {1, 1, 2, 2}, {1, 1, 2, 2}});
        DartHangar h = Check.folded(8, 6, "corner 6;");
        check.due(0, h.layers(0, 0, 5), "a CELL without LAYERS is a CELL");
    }

    private static void noSuchCell() {
        check.says(10, "NONE: no such CELL.");
        DartHangar h = Check.folded(8, 6, "nose 3;side 2;");
        check.due(2, h.layers(0, 4, 3), "the last CELL");
        check.due(-1, h.layers(0, 5, 0), "a ROW too many");
        check.due(-1, h.layers(0, 0, 4), "a COLUMN too many");
        check.due(-1, h.layers(0, -1, 0), "ROW -1");
        check.due(-1, h.layers(0, 0, -1), "COLUMN -1");
        for (int wild : Check.WILD) {
            check.due(-1, h.layers(0, wild, 0), "ROW " + wild);
            check.due(-1, h.layers(0, 0, wild), "COLUMN " + wild);
            check.due(-1, h.layers(0, wild, wild), "ROW and COLUMN " + wild);
        }
    }
}

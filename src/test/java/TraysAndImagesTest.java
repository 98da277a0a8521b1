import java.util.Arrays;

/** Promises 34 to 39: trays, images, count. */
public final class TraysAndImagesTest {
    private static final Check check = new Check();

    public static void main(String[] args) {
        rowOfZeros();
        noSuchTray();
        wrongTray();
        trayTerms();

        writes();
        missingForWrite();
        noSuchPlace();

        takes();
        takesIntoNoHand();
        missingForTake();
        endsWithinAThrow();
        wrongNumber();

        image();
        noSuchImage();
        imageTerms();

        restores();
        noSuchImageToRestore();
        noneWasMade();

        count();
        otherCounts();
        check.end();
    }

    private static void fill(DartHangar h, int tray, int sort, long... numbers) {
        h.tray(tray, sort, numbers.length);
        for (int i = 0; i < numbers.length; i++) {
            h.write(tray, i, numbers[i]);
        }
    }

    // ---- promise 34

    private static void rowOfZeros() {
        check.says(34, "A TRAY is a row of so many 0s.");
        DartHangar h = Check.hands(Check.STONE);
        // SPEED 0, chance 0: 0s are no THROW; a SLANT of 0 may stay as it is.
        h.tray(1, 2, 3);
        check.refused(Check.ARGUMENT, "take of 0s", () -> h.take(1, 0));
        h.write(1, 0, 100);
        h.write(1, 2, 1);
        check.due(1, h.take(1, 0), "a THROW with a SLANT of 0");
        check.due(2000, h.reach(0, 0, 0, false), "its REACH");
        // Made anew it is a row of 0s again, each place of it.
        for (int place = 0; place < 3; place += 2) {
            fill(h, 1, 2, 100, 5, 1);
            h.tray(1, 2, 3);
            h.write(1, 2 - place, place == 0 ? 1 : 100);
            check.refused(Check.ARGUMENT, "a 0 at place " + place, () -> h.take(1, 0));
        }
        fill(h, 1, 2, 100, 16, 1);
        h.tray(1, 2, 3);
        h.write(1, 0, 100);
        h.write(1, 2, 1);
        h.take(1, 0);
        check.due(2000, h.reach(0, 0, 0, false), "REACH with a SLANT that is 0 again");
        // Fewer, then more: what was behind the end is 0 too.
        fill(h, 2, 2, 100, 0, 1, 100, 0, 1);
        h.tray(2, 2, 3);
        h.tray(2, 2, 6);
        h.write(2, 0, 100);
        h.write(2, 2, 1);
        check.refused(Check.ARGUMENT, "0s behind what was the end", () -> h.take(2, 0));
    }

    private static void noSuchTray() {
        check.says(34, "NoSuchElementException: no such TRAY (as below)");
        DartHangar h = new DartHangar();
        h.hand();
        for (int tray : new int[] {-1, 4, 5}) {
            check.refused(Check.NO_ELEMENT, "tray(" + tray + ", 9, 99)", () -> h.tray(tray, 9, 99));
            check.refused(Check.NO_ELEMENT, "tray(" + tray + ", 0, 0)", () -> h.tray(tray, 0, 0));
            check.refused(Check.NO_ELEMENT, "write(" + tray + ", 0, 0)", () -> h.write(tray, 0, 0));
            check.refused(Check.NO_ELEMENT, "take(" + tray + ", 0)", () -> h.take(tray, 0));
        }
        for (int wild : Check.WILD) {
            check.refused(Check.NO_ELEMENT, "tray(" + wild + ", 0, 0)", () -> h.tray(wild, 0, 0));
            check.refused(Check.NO_ELEMENT, "write(" + wild + ", 0, 0)", () -> h.write(wild, 0, 0));
            check.refused(Check.NO_ELEMENT, "take(" + wild + ", 0)", () -> h.take(wild, 0));
        }
    }

    private static void wrongTray() {
        check.says(34, "IllegalArgumentException: no such sort, or not so many.");
        DartHangar h = new DartHangar();
        h.tray(0, 3, 3);
        int[][] wrong = {{-1, 3}, {4, 3}, {0, -1}, {0, 13}, {3, -1}, {3, 13}};
        for (int[] a : wrong) {
            check.refused(Check.ARGUMENT, "tray(0, " + a[0] + ", " + a[1] + ")", () -> h.tray(0, a[0], a[1]));
            check.refused(Check.ARGUMENT, "tray(1, " + a[0] + ", " + a[1] + ")", () -> h.tray(1, a[0], a[1]));
        }
        for (int wild : Check.WILD) {
            check.refused(Check.ARGUMENT, "sort " + wild, () -> h.tray(0, wild, 3));
            check.refused(Check.ARGUMENT, "so many: " + wild, () -> h.tray(0, 0, wild));
        }
        check.due(1L << 40, h.write(0, 2, 1L << 40), "TRAY 0 is as it was");
        check.refused(Check.BOUNDS, "TRAY 0 is as it was", () -> h.write(0, 3, 1));
        check.refused(Check.STATE, "TRAY 1 is MISSING still", () -> h.write(1, 0, 1));
    }

    private static void trayTerms() {
        check.says(34, "TRAYS 0 to 3 are MISSING at first, or rows of 0 to 12 numbers of 8 bits (sort 0), 16 (1), 32 (2), 64 (3).");
        DartHangar h = new DartHangar();
        for (int i = 0; i < 4; i++) {
            int tray = i;
            check.refused(Check.STATE, "TRAY " + i + " at first", () -> h.write(tray, 0, 1));
            h.tray(tray, tray, 0);
            check.refused(Check.BOUNDS, "place 0 of none of TRAY " + i, () -> h.write(tray, 0, 1));
            h.tray(tray, tray, 12);
            for (int place = 0; place < 12; place++) {
                check.due(place + 1, h.write(tray, place, place + 1), "place " + place + " of TRAY " + i);
            }
            check.refused(Check.BOUNDS, "place 12 of 12 of TRAY " + i, () -> h.write(tray, 12, 1));
        }
        // The greatest and the least number of each sort, and one more.
        for (int sort = 0; sort < 4; sort++) {
            h.tray(0, sort, 1);
            long most = -1L >>> 65 - (8 << sort);
            check.due(most, h.write(0, 0, most), "the greatest number of sort " + sort);
            check.due(-most - 1, h.write(0, 0, -most - 1), "the least number of sort " + sort);
            check.due(-most - 1, h.write(0, 0, most + 1), "one more than the greatest of sort " + sort);
            check.due(most, h.write(0, 0, -most - 2), "one less than the least of sort " + sort);
        }
    }

    // ---- promise 35

    private static void writes() {
        check.says(35, "A number comes to a place of a TRAY, cut to its sort: as it is there.");
        DartHangar h = new DartHangar();
        long v = 0x123456789abcdef0L;
        long[] cut = {(byte) 0xf0, (short) 0xdef0, 0x9abcdef0, v};
        for (int sort = 0; sort <= 3; sort++) {
            h.tray(sort, sort, 2);
            check.due(cut[sort], h.write(sort, 1, v), "a long number in sort " + sort);
            check.due(-1, h.write(sort, 0, -1), "-1 in sort " + sort);
            check.due(0, h.write(sort, 0, 0), "0 in sort " + sort);
        }
        check.due(-128, h.write(0, 0, 128), "128 in 8 bits");
        check.due(127, h.write(0, 0, 127), "127 in 8 bits");
        check.due(0, h.write(0, 0, 256), "256 in 8 bits");
        check.due(-32768, h.write(1, 0, 32768), "32768 in 16 bits");
        check.due(0, h.write(1, 0, 65536), "65536 in 16 bits");
        check.due(Integer.MIN_VALUE, h.write(2, 0, 1L << 31), "2147483648 in 32 bits");
        check.due(0, h.write(2, 0, 1L << 32), "4294967296 in 32 bits");
        check.due(Long.MIN_VALUE, h.write(3, 0, Long.MIN_VALUE), "the least in 64 bits");
        check.due(Long.MAX_VALUE, h.write(3, 0, Long.MAX_VALUE), "the greatest in 64 bits");
        // It is there as it was cut: 356 is 100 in 8 bits.
        DartHangar there = Check.hands(Check.STONE);
        fill(there, 0, 0, 356, 256, 257);
        check.due(1, there.take(0, 0), "a THROW of 100, 0, 1");
        check.due(2000, there.reach(0, 0, 0, false), "its REACH");
    }

    private static void missingForWrite() {
        check.says(35, "IllegalStateException: it is MISSING");
        DartHangar h = new DartHangar();
        h.tray(1, 0, 1);
        for (int place : new int[] {-1, 0, 99}) {
            check.refused(Check.STATE, "write(0, " + place + ", 1)", () -> h.write(0, place, 1));
        }
        check.due(1, h.write(1, 0, 1), "a TRAY beside it");
    }

    private static void noSuchPlace() {
        check.says(35, "IndexOutOfBoundsException: it has no such place.");
        DartHangar h = new DartHangar();
        for (int many = 0; many <= 12; many++) {
            h.tray(2, 1, many);
            int end = many;
            check.refused(Check.BOUNDS, "place " + many + " of " + many, () -> h.write(2, end, 0));
            check.refused(Check.BOUNDS, "place -1 of " + many, () -> h.write(2, -1, 0));
            if (many > 0) {
                check.due(7, h.write(2, many - 1, 7), "the last place of " + many);
            }
        }
        for (int wild : Check.WILD) {
            check.refused(Check.BOUNDS, "place " + wild, () -> h.write(2, wild, 0));
        }
    }

    // ---- promise 36

    private static void takes() {
        check.says(36, "The numbers of a TRAY are THROWS of a HAND in place of its own (SPEED, SLANT, chance, the next SPEED ..): how many.");
        DartHangar h = Check.hands(Check.STONE);
        h.toss(0, 50, 0, 1);
        fill(h, 0, 1, 100, 0, 2, 100, 16, 1);
        check.due(2, h.take(0, 0), "two THROWS in place of three");
        check.due(4000, h.reach(0, 0, 0, false), "REACH by them");
        check.due(72, h.reach(0, 0, 0, true), "REACH by them, long");
        check.due(3, h.toss(0, 50, 0, 1), "a THROW behind them");
        fill(h, 1, 0, 100, 0, 1, 10, -16, 9, 127, 16, 5, 11, 1, 1);
        check.due(4, h.take(1, 1), "four THROWS");
        long want = h.fly(0, 0, 100, 0, 1) + 9 * h.fly(0, 0, 10, -16, 1) + 5 * h.fly(0, 0, 127, 16, 1) + h.fly(0, 0, 11, 1, 1);
        check.due(want, h.reach(0, 0, 1, true), "REACH by them");
        check.due(-1, h.toss(1, 10, 0, 1), "no room for a fifth");
        check.due(4000 + 1000, h.reach(0, 0, 0, false), "the other HAND has its own");
        h.tray(2, 0, 0);
        check.due(0, h.take(2, 1), "an empty TRAY");
        check.due(0, h.reach(0, 0, 1, true), "REACH without THROWS");
        check.due(1, h.toss(1, 10, 0, 1), "the first THROW again");
        // THROWS that were there before count no more, neither for ODDS nor for WINS.
        h.take(1, 1);
        fill(h, 2, 2, 100, 0, 1);
        check.due(1, h.take(2, 1), "one THROW in place of four");
        check.due(1, h.odds(0, 0, 1, 2, 1000, 1450, 1450), "ODDS of two tries by it");
        check.due(0, h.odds(0, 0, 1, 2, 1000, 0, 1449), "ODDS of two tries by it, of a HOOP below");
        h.enter(0, 0, 1);
        check.due(1, h.wins(0), "WINS by it");
        h.hand();
        h.toss(2, 200, 0, 1);
        h.enter(0, 0, 2);
        check.due(1, h.wins(1), "WINS against it");
        // The TRAY stays, and what is written later is not thrown.
        h.write(0, 0, 50);
        check.due(5000, h.reach(0, 0, 0, false), "REACH by what was taken");
        check.due(2, h.take(0, 1), "the TRAY once more");
        check.due(2000, h.reach(0, 0, 1, false), "REACH by what was written later");
        // Every sort, and the bounds of each number.
        for (int sort = 1; sort <= 3; sort++) {
            fill(h, 3, sort, 10, -16, 1, 999, 16, 9);
            check.due(2, h.take(3, 0), "the bounds in sort " + sort);
            check.due(19 + 9 * 200, h.reach(0, 0, 0, true), "their REACH");
        }
    }

    private static void takesIntoNoHand() {
        check.says(36, "NoSuchElementException: also no such HAND");
        DartHangar h = new DartHangar();
        fill(h, 0, 2, 100, 0, 1);
        check.refused(Check.NO_ELEMENT, "take(0, 0) without HANDS", () -> h.take(0, 0));
        h.hand();
        check.refused(Check.NO_ELEMENT, "take(0, 1)", () -> h.take(0, 1));
        check.refused(Check.NO_ELEMENT, "take(0, -1)", () -> h.take(0, -1));
        check.refused(Check.NO_ELEMENT, "take(1, 1), which is MISSING too", () -> h.take(1, 1));
        for (int wild : Check.WILD) {
            check.refused(Check.NO_ELEMENT, "take(0, " + wild + ")", () -> h.take(0, wild));
        }
        check.due(1, h.take(0, 0), "take(0, 0)");
    }

    private static void missingForTake() {
        check.says(36, "IllegalStateException: it is MISSING");
        DartHangar h = Check.hands(Check.STONE);
        for (int i = 0; i < 4; i++) {
            int tray = i;
            check.refused(Check.STATE, "take(" + i + ", 0)", () -> h.take(tray, 0));
        }
        check.due(4000, h.reach(0, 0, 0, false), "REACH behind refused ones");
    }

    private static void endsWithinAThrow() {
        check.says(36, "IndexOutOfBoundsException: it ends within a THROW");
        DartHangar h = Check.hands(Check.STONE);
        for (int many = 0; many <= 12; many++) {
            long[] numbers = new long[many];
            for (int i = 0; i < many; i++) {
                numbers[i] = i % 3 == 0 ? 100 : 1;
            }
            fill(h, 2, 2, numbers);
            if (many % 3 == 0) {
                check.due(many / 3, h.take(2, 1), "a TRAY of " + many);
            } else {
                check.refused(Check.BOUNDS, "a TRAY of " + many, () -> h.take(2, 1));
                check.due(many / 3 * h.fly(0, 0, 100, 1, 1), h.reach(0, 0, 1, true), "the THROWS of before");
                h.tray(2, 2, many);
                check.refused(Check.BOUNDS, "a TRAY of " + many + " 0s", () -> h.take(2, 1));
            }
        }
    }

    private static void wrongNumber() {
        check.says(36, "IllegalArgumentException: a number.");
        DartHangar h = Check.hands(Check.STONE);
        long[][] wrong = {{9, 0, 1}, {1000, 0, 1}, {100, -17, 1}, {100, 17, 1}, {100, 0, 0}, {100, 0, 10}, {100, 0, -1}, {-100, 0, 1},
            {(1L << 32) + 100, 0, 1}, {100, 1L << 32, 1}, {100, 0, (1L << 32) + 1}, {Long.MIN_VALUE + 100, 0, 1},
            {100, 0, 1, 100, 0, 0}, {100, 0, 1, 100, 0, 1, 100, 0, 1, 100, 0, 10}, {100, 0, 1, 9, 0, 1, 100, 0, 1}};
        for (long[] numbers : wrong) {
            fill(h, 2, 3, numbers);
            check.refused(Check.ARGUMENT, "take of " + Arrays.toString(numbers), () -> h.take(2, 0));
        }
        check.due(4000, h.reach(0, 0, 0, false), "REACH behind refused ones");
        check.due(72, h.reach(0, 0, 0, true), "REACH, long, behind refused ones");
    }

    // ---- promise 37

    private static void image() {
        check.says(37, "An IMAGE is made.");
        DartHangar h = new DartHangar();
        for (int i = 0; i < 3; i++) {
            h.sheet(5 + i, 5 + i);
            h.image(i);
        }
        h.sheet(20, 10);
        for (int i = 0; i < 3; i++) {
            h.restore(i);
            check.due(5 + i, h.count(2), "ROWS of IMAGE " + i);
        }
        // Made anew, in place of what it was; the others stay.
        h.sheet(9, 9);
        h.image(0);
        h.restore(2);
        check.due(7, h.count(2), "ROWS of another IMAGE");
        h.restore(0);
        check.due(9, h.count(2), "ROWS of an IMAGE made anew");
    }

    private static void noSuchImage() {
        check.says(37, "NoSuchElementException: no such one.");
        DartHangar h = new DartHangar();
        check.refused(Check.NO_ELEMENT, "image(3)", () -> h.image(3));
        check.refused(Check.NO_ELEMENT, "image(-1)", () -> h.image(-1));
        for (int wild : Check.WILD) {
            check.refused(Check.NO_ELEMENT, "image(" + wild + ")", () -> h.image(wild));
        }
    }

    private static void imageTerms() {
        check.says(37, "IMAGES 0 to 2: all but the tape, the FAULT and TRAYS, as it was (none at first).");
        DartHangar h = full();
        long[] want = told(h);
        h.tray(0, 0, 3);
        h.image(1);
        spoil(h);
        h.tray(1, 1, 3);
        h.restore(1);
        check.due(0, differences(want, told(h)), "all is as in the IMAGE");
        check.due(20, h.count(4), "the tape is no part of an IMAGE");
        check.due(3, h.fault(0), "nor is the FAULT");
        check.due(5, h.fault(1), "nor is its place");
        check.due(5, h.write(1, 2, 5), "nor are TRAYS");
        check.refused(Check.STATE, "IMAGE 0 was not made", () -> h.restore(0));
        check.refused(Check.STATE, "IMAGE 2 was not made", () -> h.restore(2));
        // What is done behind it leaves the IMAGE as it is.
        spoilThrows(h);
        h.restore(1);
        check.due(0, differences(want, told(h)), "all is as in the IMAGE once more");
        // An IMAGE of an object as it was at first.
        DartHangar first = new DartHangar();
        first.image(2);
        spoil(first);
        first.restore(2);
        check.refused(Check.NO_ELEMENT, "a WAY of before", () -> first.fold(0, -1));
        check.refused(Check.NO_ELEMENT, "a HAND of before", () -> first.toss(0, 10, 0, 1));
        check.refused(Check.NO_ELEMENT, "an ENTRY of before", () -> first.wins(0));
        check.due(0, first.still(), "DRAUGHTS and CRATES of before");
        check.due(0, first.damp(0), "DAMP of before");
    }

    private static DartHangar full() {
        DartHangar h = new DartHangar();
        h.sheet(9, 7);
        Check.way(h, "nose 1;");
        Check.way(h, "side 1;");
        Check.law(h, "pull 5;thin 6;turn 7;slow 8;roof 33;lift 1 1 1 1 1 1 1 1 1;drag 2 2 2 2 2 2 2 2 2;");
        h.hand();
        h.toss(0, 111, 1, 2);
        h.toss(0, 222, 2, 3);
        h.draught(1, 100, 3);
        h.draught(50, 60, -3);
        h.crate(77777, 10);
        h.damp(12);
        h.enter(0, 1, 0);
        h.enter(1, -1, 0);
        return h;
    }

    private static long[] told(DartHangar h) {
        long[] all = new long[40];
        int n = 0;
        for (int what = 0; what <= 13; what++) {
            all[n++] = what == 4 ? 0 : h.count(what);
        }
        for (int way = 0; way < 2; way++) {
            all[n++] = h.fold(way, -1);
            all[n++] = h.fold(way, 0);
            all[n++] = h.reach(way, 3, 0, false);
            all[n++] = h.reach(way, 3, 0, true);
            all[n++] = h.fly(way, 3, 300, 3, 0);
            all[n++] = h.rest(way, 3, -1);
            all[n++] = h.wins(way);
            all[n++] = h.make(way, 2);
        }
        return all;
    }

    private static int differences(long[] want, long[] got) {
        int many = 0;
        for (int i = 0; i < want.length; i++) {
            many += want[i] == got[i] ? 0 : 1;
        }
        return many;
    }

    /** Other of everything, so that each part that a restore forgets shows. */
    private static void spoil(DartHangar h) {
        h.sheet(12, 12);
        Check.way(h, "corner 5;");
        Check.law(h, "pull 9;");
        h.hand();
        h.toss(0, 99, 9, 9);
        h.still();
        h.draught(1, 200, -9);
        h.crate(5, 9999);
        h.damp(40);
        h.enter(0, 0, 0);
        h.mend(0, 3, 0, false);
        spoilThrows(h);
        Check.way(h, "nose 0;");
        Check.feed(h, "abc");
    }

    private static void spoilThrows(DartHangar h) {
        h.tray(2, 2, 3);
        h.write(2, 0, 50);
        h.write(2, 2, 9);
        h.take(2, 0);
        h.mend(0, 3, 0, true);
    }

    // ---- promise 38

    private static void restores() {
        check.says(38, "All is as in an IMAGE.");
        DartHangar h = full();
        h.image(1);
        spoil(h);
        h.restore(1);
        check.due(3, h.toss(0, 10, 0, 1), "THROWS go on");
        check.due(2, h.enter(0, 0, 0), "ENTRIES go on");
        check.due(2, h.draught(1, 1, 1), "DRAUGHTS go on");
        check.due(1, h.crate(1, 1), "CRATES go on");
        check.due(1, h.hand(), "HANDS go on");
        check.due(2, Check.way(h, ""), "WAYS go on");
        long[] before = told(h);
        h.image(0);
        h.restore(0);
        check.due(0, differences(before, told(h)), "restored at once");
        h.restore(0);
        check.due(0, differences(before, told(h)), "restored two times");
        h.restore(1);
        check.due(0, differences(told(full()), told(h)), "back to the older one");
    }

    private static void noSuchImageToRestore() {
        check.says(38, "NoSuchElementException: no such one");
        DartHangar h = new DartHangar();
        h.image(0);
        check.refused(Check.NO_ELEMENT, "restore(3)", () -> h.restore(3));
        check.refused(Check.NO_ELEMENT, "restore(-1)", () -> h.restore(-1));
        for (int wild : Check.WILD) {
            check.refused(Check.NO_ELEMENT, "restore(" + wild + ")", () -> h.restore(wild));
        }
    }

    private static void noneWasMade() {
        check.says(38, "IllegalStateException: none was made.");
        DartHangar h = new DartHangar();
        for (int i = 0; i < 3; i++) {
            int one = i;
            check.refused(Check.STATE, "restore(" + i + ")", () -> h.restore(one));
        }
        for (int i = 2; i >= 0; i--) {
            h.sheet(10 + i, 6);
            h.image(i);
            h.sheet(8, 6);
            h.restore(i);
            check.due(10 + i, h.count(2), "ROWS of IMAGE " + i);
            for (int k = 0; k < i; k++) {
                int one = k;
                check.refused(Check.STATE, "restore(" + k + ") still", () -> h.restore(one));
            }
        }
    }

    // ---- promise 39

    private static void count() {
        check.says(39, "0 WAYS, 1 HANDS, 2 ROWS, 3 COLUMNS of THE SHEET, 4 bytes on the tape, 5 pull, 6 thin, 7 turn, 8 slow, 9 roof (NONE),"
            + " 10 DRAUGHTS, 11 CRATES, 12 ENTRIES, 13 DAMP");
        DartHangar h = full();
        Check.feed(h, "abc");
        int[] want = {2, 1, 9, 7, 20, 5, 6, 7, 8, 33, 2, 1, 2, 12};
        for (int what = 0; what <= 13; what++) {
            check.due(want[what], h.count(what), "count(" + what + ")");
        }
        Check.law(h, "");
        h.law(0);
        check.due(-1, h.count(9), "no roof");
        // As many as there may be.
        DartHangar most = new DartHangar();
        Check.law(most, "roof 99;pull 50;thin 99;turn 99;slow 9;");
        most.sheet(24, 12);
        most.damp(50);
        for (int i = 0; i < 7; i++) {
            most.way(0);
            most.hand();
            most.draught(1, 1, 1);
            most.crate(1, 1);
            most.enter(0, 0, 0);
        }
        for (int i = 0; i < 21; i++) {
            most.feed(0, 0, 0, 0, 0);
        }
        int[] full = {6, 5, 24, 12, 400, 50, 99, 99, 9, 99, 4, 3, 4, 50};
        for (int what = 0; what <= 13; what++) {
            check.due(full[what], most.count(what), "count(" + what + ") of as many as there may be");
        }
    }

    private static void otherCounts() {
        check.says(39, "NONE for others.");
        DartHangar h = full();
        check.due(-1, h.count(14), "count(14)");
        check.due(-1, h.count(-1), "count(-1)");
        for (int wild : Check.WILD) {
            check.due(-1, h.count(wild), "count(" + wild + ")");
        }
    }
}

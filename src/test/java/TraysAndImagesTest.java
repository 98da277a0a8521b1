/** Promises 34 to 39: trays, images, count. */
public final class TraysAndImagesTest {
    private static final Check check = new Check();

    public static void main(String[] args) {
        tray();
        write();
        take();
        image();
        restore();
        count();
        check.end();
    }

    private static void tray() {
        check.promise(34);
        DartHangar h = new DartHangar();
        h.tray(0, 3, 12);
        check.due(-7, h.write(0, 11, -7), "the last place of 12");
        check.refused(Check.BOUNDS, "place 12 of 12", () -> h.write(0, 12, 1));
        h.hand();
        h.tray(0, 3, 3);
        check.refused(Check.ARGUMENT, "take of 0s", () -> h.take(0, 0));
        h.tray(3, 0, 0);
        check.refused(Check.BOUNDS, "place 0 of none", () -> h.write(3, 0, 1));
        int[][] wrong = {{0, -1, 3}, {0, 4, 3}, {0, 0, -1}, {0, 0, 13}, {0, Integer.MAX_VALUE, 1}, {0, 1, Integer.MIN_VALUE}};
        for (int[] a : wrong) {
            check.refused(Check.ARGUMENT, "tray(" + a[0] + ", " + a[1] + ", " + a[2] + ")", () -> h.tray(a[0], a[1], a[2]));
        }
        check.due(5, h.write(0, 2, 5), "the TRAY behind refused ones");
        check.refused(Check.NO_ELEMENT, "tray(4, 9, 99)", () -> h.tray(4, 9, 99));
        check.refused(Check.NO_ELEMENT, "tray(-1, 0, 0)", () -> h.tray(-1, 0, 0));
        // A TRAY that is made anew is a row of 0s again.
        h.tray(1, 2, 3);
        h.write(1, 0, 100);
        h.write(1, 2, 1);
        check.due(1, h.take(1, 0), "a THROW");
        h.tray(1, 2, 3);
        h.write(1, 0, 100);
        check.refused(Check.ARGUMENT, "a chance of 0", () -> h.take(1, 0));
        h.tray(1, 2, 3);
        h.write(1, 2, 1);
        check.refused(Check.ARGUMENT, "a SPEED of 0", () -> h.take(1, 0));
    }

    private static void write() {
        check.promise(35);
        DartHangar h = new DartHangar();
        long v = 0x123456789abcdef0L;
        long[] cut = {(byte) v, (short) v, (int) v, v};
        for (int sort = 0; sort <= 3; sort++) {
            h.tray(sort, sort, 2);
            check.due(cut[sort], h.write(sort, 1, v), "sort " + sort);
            check.due(-1, h.write(sort, 0, -1), "-1 in sort " + sort);
        }
        check.due(-128, h.write(0, 0, 128), "128 in 8 bits");
        check.due(127, h.write(0, 0, 127), "127 in 8 bits");
        check.due(0, h.write(0, 0, 256), "256 in 8 bits");
        check.due(-32768, h.write(1, 0, 32768), "32768 in 16 bits");
        check.due(Integer.MIN_VALUE, h.write(2, 0, 1L << 31), "2147483648 in 32 bits");
        check.due(Long.MIN_VALUE, h.write(3, 0, Long.MIN_VALUE), "the least in 64 bits");
        check.refused(Check.BOUNDS, "place 2 of 2", () -> h.write(0, 2, 0));
        check.refused(Check.BOUNDS, "place -1", () -> h.write(0, -1, 0));
        check.refused(Check.NO_ELEMENT, "TRAY 4", () -> h.write(4, 99, 0));
        check.refused(Check.NO_ELEMENT, "TRAY -1", () -> h.write(-1, 99, 0));
        check.refused(Check.STATE, "a MISSING TRAY", () -> new DartHangar().write(2, 99, 0));
    }

    private static void fill(DartHangar h, int tray, int sort, long... numbers) {
        h.tray(tray, sort, numbers.length);
        for (int i = 0; i < numbers.length; i++) {
            h.write(tray, i, numbers[i]);
        }
    }

    private static void take() {
        check.promise(36);
        DartHangar h = new DartHangar();
        Check.way(h, "");
        Check.law(h, Check.STONE);
        h.hand();
        h.toss(0, 50, 0, 1);
        h.toss(0, 50, 0, 1);
        fill(h, 0, 1, 100, 0, 2, 100, 16, 1);
        check.due(2, h.take(0, 0), "two THROWS");
        check.due(4000, h.reach(0, 0, 0, false), "REACH by them");
        check.due(72, h.reach(0, 0, 0, true), "REACH by them, long");
        fill(h, 1, 0, 100, 0, 1, 10, -16, 9, 127, 16, 5, 11, 1, 1);
        check.due(4, h.take(1, 0), "four THROWS");
        check.due(-1, h.toss(0, 10, 0, 1), "no room for a fifth");
        long[][] wrong = {{9, 0, 1}, {1000, 0, 1}, {100, -17, 1}, {100, 17, 1}, {100, 0, 0}, {100, 0, 10},
            {(1L << 32) + 100, 0, 1}, {100, 1L << 32, 1}, {100, 0, (1L << 32) + 1}, {100, 0, 1, 100, 0, 0}};
        for (long[] numbers : wrong) {
            fill(h, 2, 3, numbers);
            check.refused(Check.ARGUMENT, "a wrong number among " + java.util.Arrays.toString(numbers), () -> h.take(2, 0));
        }
        check.due(-1, h.toss(0, 10, 0, 1), "the HAND has its THROWS still");
        for (int many : new int[] {1, 2, 4, 5, 7, 8, 10, 11}) {
            h.tray(2, 2, many);
            check.refused(Check.BOUNDS, "a TRAY of " + many, () -> h.take(2, 0));
        }
        check.refused(Check.NO_ELEMENT, "take(2, 1)", () -> h.take(2, 1));
        check.refused(Check.NO_ELEMENT, "take(3, 1): MISSING too", () -> h.take(3, 1));
        check.refused(Check.STATE, "take(3, 0)", () -> h.take(3, 0));
        check.refused(Check.NO_ELEMENT, "take(4, 0)", () -> h.take(4, 0));
        check.refused(Check.NO_ELEMENT, "take(-1, 0)", () -> h.take(-1, 0));
        h.tray(2, 0, 0);
        check.due(0, h.take(2, 0), "an empty TRAY");
        check.due(1, h.toss(0, 10, 0, 1), "the HAND had no THROWS then");
    }

    private static void image() {
        check.promise(37);
        DartHangar h = new DartHangar();
        check.refused(Check.NO_ELEMENT, "image(3)", () -> h.image(3));
        check.refused(Check.NO_ELEMENT, "image(-1)", () -> h.image(-1));
        h.sheet(5, 5);
        h.image(0);
        h.sheet(6, 6);
        h.image(1);
        h.sheet(7, 7);
        h.image(2);
        for (int i = 0; i < 3; i++) {
            h.restore(i);
            check.due(5 + i, h.count(2), "ROWS of IMAGE " + i);
        }
        h.restore(0);
        h.sheet(9, 9);
        h.image(0);
        h.restore(2);
        h.restore(0);
        check.due(9, h.count(2), "ROWS of an IMAGE made anew");
    }

    private static DartHangar full() {
        DartHangar h = new DartHangar();
        h.sheet(9, 7);
        Check.way(h, "nose 1;");
        Check.way(h, "side 1;");
        Check.law(h, "pull 5;thin 6;turn 7;slow 8;roof 33;lift 1 1 1 1 1 1 1 1 1;drag 2 2 2 2 2 2 2 2 2;");
        h.hand();
        h.toss(0, 111, 1, 2);
        h.toss(0, 222, 2, 3);
        h.draught(1, 100, 3);
        h.draught(50, 60, -3);
        h.crate(77777, 10);
        h.damp(12);
        h.enter(0, 1, 0);
        h.enter(1, -1, 0);
        return h;
    }

    private static long[] told(DartHangar h) {
        long[] all = new long[40];
        int n = 0;
        for (int what = 0; what <= 13; what++) {
            all[n++] = what == 4 ? 0 : h.count(what);
        }
        for (int way = 0; way < 2; way++) {
            all[n++] = h.fold(way, -1);
            all[n++] = h.fold(way, 0);
            all[n++] = h.reach(way, 3, 0, false);
            all[n++] = h.reach(way, 3, 0, true);
            all[n++] = h.fly(way, 3, 300, 3, 0);
            all[n++] = h.rest(way, 3, -1);
            all[n++] = h.wins(way);
            all[n++] = h.make(way, 2);
        }
        return all;
    }

    private static void restore() {
        check.promise(38);
        DartHangar h = full();
        long[] want = told(h);
        h.tray(0, 0, 3);
        h.image(1);
        spoil(h);
        h.write(0, 0, 44);
        h.tray(1, 1, 3);
        h.restore(1);
        same(want, told(h), "restored");
        check.due(20, h.count(4), "the tape is no part of an IMAGE");
        check.due(3, h.fault(0), "nor is the FAULT");
        check.due(5, h.write(1, 2, 5), "nor are TRAYS");
        check.due(2, h.toss(0, 10, 0, 1) - 1, "THROWS of the HAND");
        check.due(2, h.enter(0, 0, 0), "ENTRIES go on");
        check.due(2, h.draught(1, 1, 1), "DRAUGHTS go on");
        check.due(1, h.crate(1, 1), "CRATES go on");
        check.due(1, h.hand(), "HANDS go on");
        h.restore(1);
        same(want, told(h), "restored a second time");
        check.refused(Check.STATE, "restore(0)", () -> h.restore(0));
        check.refused(Check.STATE, "restore(2)", () -> h.restore(2));
        check.refused(Check.NO_ELEMENT, "restore(3)", () -> h.restore(3));
        check.refused(Check.NO_ELEMENT, "restore(-1)", () -> h.restore(-1));
    }

    /** Other of everything, so that each part that a restore forgets shows. */
    private static void spoil(DartHangar h) {
        h.sheet(12, 12);
        h.mend(0, 3, 0, false);
        Check.way(h, "corner 5;");
        Check.law(h, "pull 9;");
        h.tray(2, 2, 3);
        h.write(2, 0, 50);
        h.write(2, 2, 9);
        h.take(2, 0);
        h.hand();
        h.still();
        h.draught(1, 200, -9);
        h.crate(5, 9999);
        h.damp(40);
        h.enter(0, 0, 0);
        Check.way(h, "nose 0;");
        Check.feed(h, "abc");
    }

    private static void same(long[] want, long[] got, String what) {
        for (int i = 0; i < want.length; i++) {
            check.due(want[i], got[i], what + ", number " + i);
        }
    }

    private static void count() {
        check.promise(39);
        DartHangar h = full();
        Check.feed(h, "abc");
        int[] want = {2, 1, 9, 7, 20, 5, 6, 7, 8, 33, 2, 1, 2, 12};
        for (int what = 0; what <= 13; what++) {
            check.due(want[what], h.count(what), "count(" + what + ")");
        }
        check.due(-1, h.count(14), "count(14)");
        check.due(-1, h.count(-1), "count(-1)");
        check.due(-1, h.count(Integer.MIN_VALUE), "count of the least int");
    }
}

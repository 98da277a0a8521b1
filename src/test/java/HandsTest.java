/** Promises 20 to 26: hands and their throws, reach, the best ears, the best way, the best change, mended ways. */
public final class HandsTest {
    private static final Check check = new Check();
    private static final String[] KINDS = {"nose", "side", "corner"};

    public static void main(String[] args) {
        aHandMore();
        handsNumbered();
        aThrowMore();
        noSuchHand();
        wrongThrow();
        throwTerms();

        reach();
        reachTerms();

        ears();
        earsTerms();

        best();
        noBest();
        bestTerms();

        change();
        noChange();
        wrongChange();
        changeTerms();
        bestChangeTerms();

        mend();
        mendTerms();
        check.end();
    }

    // ---- promise 20

    private static void aHandMore() {
        check.says(20, "A HAND more, without THROWS: its number; NONE if there are 5.");
        DartHangar h = new DartHangar();
        h.way(0);
        for (int i = 0; i < 5; i++) {
            check.due(i, h.hand(), "number of a HAND");
            check.due(i + 1, h.count(1), "HANDS");
            check.due(0, h.reach(0, 0, i, true), "REACH of a new HAND");
            check.due(1, h.toss(i, 10, 0, 1), "its first THROW");
        }
        check.due(-1, h.hand(), "a sixth HAND");
        check.due(5, h.count(1), "HANDS then");
        check.due(2, h.toss(4, 10, 0, 1), "a THROW of the fifth HAND behind that");
        // A number that an IMAGE took back comes again without THROWS.
        DartHangar again = new DartHangar();
        again.way(0);
        again.image(0);
        again.hand();
        again.toss(0, 100, 0, 1);
        again.restore(0);
        check.due(0, again.hand(), "a HAND behind restore");
        check.due(0, again.reach(0, 0, 0, true), "its REACH");
        check.due(1, again.toss(0, 100, 0, 1), "its first THROW");
    }

    private static void handsNumbered() {
        check.says(20, "HANDS, at most 5, numbered as they come");
        DartHangar h = Check.hangar(Check.STONE);
        for (int i = 0; i < 5; i++) {
            check.due(i, h.hand(), "number of a HAND");
            h.toss(i, 100 + 10 * i, 0, 1);
        }
        for (int i = 0; i < 5; i++) {
            check.due(20 * (100 + 10 * i), h.reach(0, 0, i, false), "REACH of HAND " + i);
        }
        check.refused(Check.NO_ELEMENT, "HAND 5", () -> h.reach(0, 0, 5, false));
    }

    // ---- promise 21

    private static void aThrowMore() {
        check.says(21, "A THROW more of a HAND: how many it has; NONE if it has 4.");
        DartHangar h = Check.hangar(Check.STONE);
        h.hand();
        h.hand();
        for (int i = 1; i <= 4; i++) {
            check.due(i, h.toss(0, 100, 0, i), "THROWS of HAND 0");
            check.due(2000 * i * (i + 1) / 2, h.reach(0, 0, 0, false), "its REACH");
        }
        check.due(-1, h.toss(0, 100, 0, 9), "a fifth THROW");
        check.due(20000, h.reach(0, 0, 0, false), "its REACH then");
        check.due(1, h.toss(1, 100, 0, 1), "THROWS of HAND 1");
    }

    private static void noSuchHand() {
        check.says(21, "NoSuchElementException: no such HAND (as everywhere)");
        DartHangar h = new DartHangar();
        check.refused(Check.NO_ELEMENT, "toss(0, ..) without HANDS", () -> h.toss(0, 10, 0, 1));
        h.hand();
        check.due(1, h.toss(0, 10, 0, 1), "toss(0, ..)");
        check.refused(Check.NO_ELEMENT, "toss(1, ..)", () -> h.toss(1, 10, 0, 1));
        check.refused(Check.NO_ELEMENT, "toss(-1, ..)", () -> h.toss(-1, 10, 0, 1));
        for (int wild : Check.WILD) {
            check.refused(Check.NO_ELEMENT, "toss(" + wild + ", ..)", () -> h.toss(wild, 10, 0, 1));
        }
    }

    private static void wrongThrow() {
        check.says(21, "IllegalArgumentException: a number.");
        DartHangar h = new DartHangar();
        h.hand();
        int[][] wrong = {{9, 0, 1}, {1000, 0, 1}, {10, -17, 1}, {10, 17, 1}, {10, 0, 0}, {10, 0, 10}, {0, 0, 1}, {10, 0, -1}};
        for (int[] a : wrong) {
            check.refused(Check.ARGUMENT, "toss(0, " + a[0] + ", " + a[1] + ", " + a[2] + ")", () -> h.toss(0, a[0], a[1], a[2]));
        }
        for (int wild : Check.WILD) {
            check.refused(Check.ARGUMENT, "SPEED " + wild, () -> h.toss(0, wild, 0, 1));
            check.refused(Check.ARGUMENT, "SLANT " + wild, () -> h.toss(0, 10, wild, 1));
            check.refused(Check.ARGUMENT, "chance " + wild, () -> h.toss(0, 10, 0, wild));
        }
        for (int i = 1; i <= 4; i++) {
            check.due(i, h.toss(0, 10, 0, 1), "THROWS behind refused ones");
        }
        check.refused(Check.ARGUMENT, "a wrong fifth THROW", () -> h.toss(0, 10, 0, 0));
    }

    private static void throwTerms() {
        check.says(21, "THROWS, at most 4 each: a SPEED, a SLANT, a chance (1 to 9).");
        DartHangar h = Check.hangar(Check.STONE);
        h.hand();
        check.due(1, h.toss(0, 10, -16, 1), "the least THROW");
        check.due(19, h.reach(0, 0, 0, true), "LONG of SPEED 10 at -16");
        check.due(2, h.toss(0, 999, 16, 9), "the greatest THROW");
        check.due(19 + 9 * 200, h.reach(0, 0, 0, true), "and nine times 200 TICKS");
        check.refused(Check.ARGUMENT, "chance 0", () -> h.toss(0, 10, 0, 0));
        check.refused(Check.ARGUMENT, "chance 10", () -> h.toss(0, 10, 0, 10));
        check.due(3, h.toss(0, 100, 0, 1), "a third THROW");
        check.due(4, h.toss(0, 100, 0, 1), "a fourth THROW");
        check.due(-1, h.toss(0, 100, 0, 1), "a fifth THROW");
    }

    // ---- promise 22

    private static void reach() {
        check.says(22, "REACH of a WAY with EARS by a HAND.");
        DartHangar h = Check.hands("");
        for (int e = -9; e <= 9; e += 3) {
            check.due(2 * h.fly(1, e, 100, 0, 0) + h.fly(1, e, 100, 16, 0), h.reach(1, e, 0, false), "REACH, far, EARS " + e);
            check.due(2 * h.fly(1, e, 100, 0, 1) + h.fly(1, e, 100, 16, 1), h.reach(1, e, 0, true), "REACH, long, EARS " + e);
        }
        check.refused(Check.ARGUMENT, "reach with EARS 10", () -> h.reach(0, 10, 0, true));
        check.refused(Check.ARGUMENT, "reach with EARS -10", () -> h.reach(0, -10, 0, true));
    }

    private static void reachTerms() {
        check.says(22, "REACH of a WAY with EARS by a HAND: the sum over its THROWS of chance times FAR, or (long) times LONG.");
        DartHangar h = Check.hands(Check.STONE);
        check.due(2 * 2000, h.reach(0, 0, 0, false), "REACH, far");
        check.due(2 * 20 + 32, h.reach(0, 0, 0, true), "REACH, long");
        check.due(0, h.reach(0, 0, 1, false), "REACH of a HAND without THROWS");
        check.due(0, h.reach(0, 0, 1, true), "REACH of a HAND without THROWS, long");
        // As far as can be: VX -2000 in each of 200 TICKS, four THROWS of chance 9.
        DartHangar most = Check.hangar("turn 0;thin 1;lift 0 0 0 0 0 0 0 0 0;drag 99 0 0 0 0 0 0 0 0;");
        most.draught(1, 200, 10);
        most.hand();
        for (int i = 0; i < 4; i++) {
            most.toss(0, 999, 0, 9);
        }
        check.due(-36 * 400000, most.reach(0, 0, 0, false), "REACH as far as can be");
        check.due(36 * 200, most.reach(0, 0, 0, true), "REACH as long as can be");
        // A REACH below 0.
        DartHangar back = Check.hands("turn 0;thin 1;lift 0 0 0 0 0 0 0 0 0;drag 22 0 0 0 0 0 0 0 0;");
        check.due(2 * back.fly(0, 0, 100, 0, 0), back.reach(0, 0, 0, false), "a REACH below 0");
        check.due(true, back.reach(0, 0, 0, false) < 0, "it is below 0");
    }

    // ---- promise 23

    private static void ears() {
        check.says(23, "BEST EARS.");
        DartHangar h = Check.hands("");
        for (int way = 0; way <= 1; way++) {
            for (int lasts = 0; lasts <= 1; lasts++) {
                int best = -9;
                for (int e = -9; e <= 9; e++) {
                    long more = h.reach(way, e, 0, lasts == 1) - h.reach(way, best, 0, lasts == 1);
                    best = more > 0 || more == 0 && Math.abs(e) < Math.abs(best) ? e : best;
                }
                check.due(best, h.ears(way, 0, lasts == 1), "BEST EARS of WAY " + way + ", " + lasts);
            }
        }
    }

    /** With a THROW of this SPEED into this air, a CRATE at x, just those EARS have the greatest FAR. */
    private static void dueEars(String law, int x, int speed, int want, int... alike) {
        DartHangar h = Check.hangar("lift 0 0 0 0 0 0 0 0 0;" + law);
        h.crate(x, 9999);
        h.hand();
        h.toss(0, speed, 0, 1);
        long most = h.reach(0, alike[0], 0, false);
        for (int e = -9; e <= 9; e++) {
            boolean one = false;
            for (int a : alike) {
                one |= a == e;
            }
            long got = h.reach(0, e, 0, false);
            check.due(true, one ? got == most : got < most, "EARS " + e + " are " + (one ? "" : "not ") + "among the best by " + law);
        }
        check.due(want, h.ears(0, 0, false), "BEST EARS by " + law);
    }

    private static void earsTerms() {
        check.says(23, "BEST EARS: of -9 to 9 with the greatest REACH; of like ones the least without sign, then the one below 0.");
        DartHangar h = Check.hands(Check.STONE);
        check.due(0, h.ears(0, 0, false), "all EARS alike");
        check.due(0, h.ears(0, 0, true), "all EARS alike, long");
        check.due(0, h.ears(0, 1, true), "no THROWS");
        dueEars("drag 12 2 0 0 0 0 0 0 0;turn 42;slow 6;", 3694, 334, -9, -9, 9);
        dueEars("drag 12 2 0 0 0 0 0 0 0;turn 58;slow 6;", 3203, 325, -7, -9, -8, -7, 7, 8, 9);
        dueEars("drag 12 2 0 0 0 0 0 0 0;turn 35;slow 6;", 3997, 404, 7, -9, 7, 8, 9);
        dueEars("drag 18 2 0 0 0 0 0 0 0;turn 36;slow 1;", 2590, 377, 4, -9, -8, 4, 5, 6, 7);
        dueEars("drag 11 3 0 0 0 0 0 0 0;turn 18;slow 2;", 3909, 298, -8, -9, -8);
        dueEars("drag 0 3 0 0 0 0 0 0 0;turn 44;slow 3;", 2786, 113, -2, -3, -2);
        dueEars("drag 18 4 0 0 0 0 0 0 0;turn 35;slow 0;", 2955, 245, 8, 8, 9);
    }

    // ---- promise 24

    private static void best() {
        check.says(24, "BEST WAY");
        DartHangar h = Check.hands("");
        Check.way(h, "nose 3;");
        Check.way(h, "nose 1;side 2;");
        for (int i = 0; i <= 1; i++) {
            boolean lasts = i == 1;
            int best = 0;
            for (int way : new int[] {1, 3, 4}) {
                long more = h.reach(way, h.ears(way, 0, lasts), 0, lasts) - h.reach(best, h.ears(best, 0, lasts), 0, lasts);
                best = more > 0 ? way : best;
            }
            check.due(best, h.best(0, lasts), "BEST WAY, " + lasts);
        }
    }

    private static void noBest() {
        check.says(24, "NONE: no WAY has a MAKE.");
        DartHangar h = new DartHangar();
        h.hand();
        check.due(-1, h.best(0, true), "no WAY");
        check.due(-1, h.best(0, false), "no WAY");
        for (int i = 0; i < 6; i++) {
            check.due(-1, h.best(0, true), "no WAY with a MAKE of " + i);
            Check.way(h, "nose 5;");
        }
        check.due(-1, h.best(0, true), "no WAY with a MAKE of 6");
        h.sheet(10, 6);
        check.due(0, h.best(0, true), "a SHEET that gives them one");
        DartHangar last = new DartHangar();
        last.hand();
        Check.way(last, "nose 5;");
        Check.way(last, "corner 7;");
        Check.way(last, "nose 1;");
        check.due(2, last.best(0, true), "the only WAY with a MAKE, no THROWS");
    }

    private static void bestTerms() {
        check.says(24, "BEST WAY: of those that have a MAKE, each with its BEST EARS, that with the greatest REACH; of like ones the least.");
        DartHangar alike = Check.hands(Check.STONE);
        check.due(0, alike.best(0, false), "all WAYS alike");
        check.due(0, alike.best(1, true), "no THROWS");
        // The first has no MAKE: of like ones the next.
        DartHangar next = new DartHangar();
        Check.law(next, Check.STONE);
        Check.way(next, "nose 5;");
        Check.way(next, "nose 2;");
        Check.way(next, "nose 2;");
        next.hand();
        next.toss(0, 100, 0, 1);
        check.due(1, next.best(0, false), "of like ones with a MAKE the least");
        // A WAY whose REACH is below 0 is better than none; the greatest of them wins.
        DartHangar back = new DartHangar();
        Check.law(back, "lift 0 0 0 0 0 0 0 0 0;drag 99 0 0 0 0 0 0 0 0;thin 1;turn 0;");
        Check.way(back, "");
        Check.way(back, "nose 4;side 3;");
        back.hand();
        back.toss(0, 100, 0, 1);
        check.due(true, back.reach(0, 0, 0, false) < back.reach(1, 0, 0, false), "the whole SHEET is thrown back more");
        check.due(true, back.reach(1, 0, 0, false) < 0, "both are thrown back");
        check.due(1, back.best(0, false), "BEST WAY by a REACH below 0");
        ownBestEars();
    }

    /** Each WAY with its own BEST EARS: with EARS 0 for both, or with those of the first one, the first one would win. */
    private static void ownBestEars() {
        DartHangar h = new DartHangar();
        Check.way(h, "nose 3;");
        Check.way(h, "nose 1;");
        h.hand();
        h.toss(0, 233, 3, 1);
        check.due(1, h.ears(0, 0, false), "BEST EARS of WAY 0");
        check.due(2, h.ears(1, 0, false), "BEST EARS of WAY 1");
        check.due(true, h.reach(0, 0, 0, false) > h.reach(1, 0, 0, false), "with EARS 0 WAY 0 would win");
        check.due(true, h.reach(0, 1, 0, false) > h.reach(1, 1, 0, false), "with EARS 1 WAY 0 would win");
        check.due(1, h.best(0, false), "BEST WAY by BEST EARS");
    }

    // ---- promise 25

    /** BEST CHANGE by the other calls alone: which FOLD, its code, its REACH; each changed WAY is a text of its own. */
    private static long[] changeByHand(DartHangar h, int[] codes, int ears, int hand, boolean lasts) {
        long[] best = {-1, -1, -1};
        for (int i = 0; i < codes.length; i++) {
            for (int f = 0; f < 18; f++) {
                int code = 100 * (f / 6) + f % 6 + 1;
                StringBuilder text = new StringBuilder();
                for (int k = 0; k < codes.length; k++) {
                    int c = k == i ? code : codes[k];
                    text.append(KINDS[c / 100]).append(' ').append(c % 100).append(';');
                }
                h.image(2);
                int way = Check.way(h, text.toString());
                if (code != codes[i] && h.breaks(way) == -1) {
                    long r = h.reach(way, ears, hand, lasts);
                    best = best[0] == -1 || r > best[2] ? new long[] {i, code, r} : best;
                }
                h.restore(2);
            }
        }
        return best;
    }

    /** A new object of which the last WAY has these FOLDS, thrown by HAND 0. */
    private static DartHangar thrown(int rows, int columns, String law, int speed, int slant, int... codes) {
        DartHangar h = new DartHangar();
        h.sheet(rows, columns);
        Check.law(h, law);
        StringBuilder text = new StringBuilder();
        for (int c : codes) {
            text.append(KINDS[c / 100]).append(' ').append(c % 100).append(';');
        }
        Check.way(h, text.toString());
        h.hand();
        h.toss(0, speed, slant, 1);
        return h;
    }

    private static void change() {
        check.says(25, "BEST CHANGE, what 0: which FOLD, 1: 100 times the KIND and N, 2: REACH then.");
        for (int lasts = 0; lasts <= 1; lasts++) {
            for (int e = -6; e <= 6; e += 3) {
                DartHangar h = thrown(8, 6, "", 100, 3, 2, 203);
                long[] want = changeByHand(h, new int[] {2, 203}, e, 0, lasts == 1);
                for (int what = 0; what <= 2; what++) {
                    check.due(want[what], h.change(0, e, 0, lasts == 1, what), "change(0, " + e + ", 0, " + lasts + ", " + what + ")");
                }
            }
        }
        DartHangar back = thrown(8, 6, "turn 0;thin 1;lift 0 0 0 0 0 0 0 0 0;drag 99 0 0 0 0 0 0 0 0;", 100, 0, 1);
        check.due(true, back.change(0, 0, 0, false, 2) < -1, "a REACH below 0 is told");
    }

    private static void noChange() {
        check.says(25, "NONE: there is none.");
        DartHangar h = Check.hands(Check.STONE);
        for (int what = 0; what <= 2; what++) {
            check.due(-1, h.change(0, 0, 0, false, what), "no FOLD to change, what " + what);
        }
    }

    private static void wrongChange() {
        check.says(25, "IllegalArgumentException: EARS, another what.");
        DartHangar h = Check.hands(Check.STONE);
        for (int way = 0; way <= 1; way++) {
            int w = way;
            check.refused(Check.ARGUMENT, "change with EARS 10", () -> h.change(w, 10, 0, true, 0));
            check.refused(Check.ARGUMENT, "change with EARS -10", () -> h.change(w, -10, 0, true, 0));
            check.refused(Check.ARGUMENT, "change(.. 3)", () -> h.change(w, 0, 0, true, 3));
            check.refused(Check.ARGUMENT, "change(.. -1)", () -> h.change(w, 0, 0, true, -1));
            for (int wild : Check.WILD) {
                check.refused(Check.ARGUMENT, "change with EARS " + wild, () -> h.change(w, wild, 0, true, 0));
                check.refused(Check.ARGUMENT, "change(.. " + wild + ")", () -> h.change(w, 0, 0, true, wild));
            }
        }
    }

    private static void changeTerms() {
        check.says(25, "CHANGES of a WAY (its FOLDS as they are): one FOLD becomes another one, KIND by KIND (nose, side, corner), N 1 to 6,"
            + " of those that have a MAKE.");
        // All alike in a stone's air: the first one there is.
        check.due(2, thrown(8, 6, Check.STONE, 100, 0, 1).change(0, 0, 0, false, 1), "another one than nose 1: nose 2");
        check.due(1, thrown(8, 6, Check.STONE, 100, 0, 2).change(0, 0, 0, false, 1), "another one than nose 2: nose 1");
        // 4, 3, 2, 1 ROWS: with nose 2 first, the third nose 1 could not be; with side 1 first, it can.
        DartHangar few = thrown(4, 3, Check.STONE, 100, 0, 1, 1, 1);
        check.due(0, few.change(0, 0, 0, false, 0), "the first FOLD");
        check.due(101, few.change(0, 0, 0, false, 1), "nose 2 would have no MAKE");
        // The WAY stays as it is, and so do its other FOLDS while one is changed.
        DartHangar stays = thrown(8, 6, "", 100, 3, 2, 203, 101);
        long[] want = changeByHand(stays, new int[] {2, 203, 101}, 4, 0, false);
        check.due(want[2], stays.change(0, 4, 0, false, 2), "REACH of the BEST CHANGE of three FOLDS");
        int[] codes = {2, 203, 101};
        for (int i = 0; i < 3; i++) {
            check.due(codes[i], stays.fold(0, i), "FOLD " + i + " behind change");
        }
        // N 6 counts, N 7 and more do not: nose 7 would reach 2212, nose 8 would reach 8551.
        DartHangar six = thrown(12, 12, "pull 8;turn 27;", 292, 1, 1);
        check.due(6, six.change(0, -1, 0, false, 1), "nose 6 is the best");
        DartHangar seven = thrown(23, 6, "", 129, 8, 1);
        check.due(103, seven.change(0, 6, 0, false, 1), "side 3 is the best up to 6");
        DartHangar eight = thrown(19, 11, "pull 19;turn 18;", 248, 1, 1);
        check.due(6, eight.change(0, 6, 0, false, 1), "nose 6 is the best up to 6");
        check.due(true, thrown(23, 6, "", 129, 8, 7).reach(0, 6, 0, false) > seven.change(0, 6, 0, false, 2), "nose 7 would be better");
        // A FOLD with N above 6 may become one of up to 6 too.
        check.due(1, thrown(24, 6, Check.STONE, 100, 0, 12).change(0, 0, 0, false, 1), "nose 12 becomes nose 1");
        // corner 6 is the last one tried.
        check.due(206, thrown(21, 10, "", 236, 0, 1).change(0, -5, 0, false, 1), "corner 6 is the best");
    }

    private static void bestChangeTerms() {
        check.says(25, "BEST CHANGE by a HAND, EARS as told: that with the greatest REACH; of like ones the first FOLD, KIND, N.");
        DartHangar alike = thrown(8, 6, Check.STONE, 100, 0, 4, 2);
        check.due(0, alike.change(0, 0, 0, false, 0), "of like ones the first FOLD");
        check.due(1, alike.change(0, 0, 0, false, 1), "of like ones the first KIND and N");
        check.due(2000, alike.change(0, 0, 0, false, 2), "REACH then");
        // It need not be better than the WAY itself: the best of the others is told.
        DartHangar good = thrown(23, 8, "pull 12;turn 11;", 171, 6, 206);
        check.due(true, good.change(0, 4, 0, false, 2) < good.reach(0, 4, 0, false), "a BEST CHANGE that makes it worse");
        long[] want = changeByHand(good, new int[] {206}, 4, 0, false);
        for (int what = 0; what <= 2; what++) {
            check.due(want[what], good.change(0, 4, 0, false, what), "what " + what + " of it");
        }
        // By the HAND that is told, for far or for long.
        DartHangar two = thrown(8, 6, "", 100, 3, 2, 203);
        two.hand();
        two.toss(1, 300, 10, 3);
        two.toss(1, 50, -3, 9);
        for (int hand = 0; hand <= 1; hand++) {
            long[] far = changeByHand(two, new int[] {2, 203}, 3, hand, false);
            check.due(far[2], two.change(0, 3, hand, false, 2), "REACH by HAND " + hand);
            check.due(far[1], two.change(0, 3, hand, false, 1), "the FOLD by HAND " + hand);
        }
        // No THROWS: all alike.
        two.hand();
        check.due(1, two.change(0, 3, 2, true, 1), "the first of all by a HAND without THROWS");
        check.due(0, two.change(0, 3, 2, true, 2), "its REACH");
    }

    // ---- promise 26

    private static void mend() {
        check.says(26, "MENDED: how many CHANGES were done (the WAY is as they made it).");
        DartHangar h = Check.hands("");
        int way = Check.way(h, "nose 1;side 1;nose 1;corner 2;");
        int[] codes = {1, 101, 1, 202};
        int done = 0;
        long reached = h.reach(way, 4, 0, false);
        while (done < 4) {
            DartHangar other = Check.hands("");
            long[] best = changeByHand(other, codes, 4, 0, false);
            if (best[0] == -1 || best[2] <= reached) {
                break;
            }
            reached = best[2];
            codes[(int) best[0]] = (int) best[1];
            done++;
        }
        check.due(true, done > 0, "that WAY can be mended");
        check.due(done, h.mend(way, 4, 0, false), "how many CHANGES were done");
        for (int i = 0; i < 4; i++) {
            check.due(codes[i], h.fold(way, i), "FOLD " + i + " as they made it");
        }
        check.due(4, h.fold(way, -1), "as many FOLDS");
        check.due(reached, h.reach(way, 4, 0, false), "REACH then");
        check.due(2, h.fold(1, 0), "another WAY stays");
        check.refused(Check.ARGUMENT, "mend with EARS -10", () -> h.mend(1, -10, 0, true));
        check.refused(Check.ARGUMENT, "mend with EARS 10", () -> h.mend(1, 10, 0, true));
    }

    private static void mendTerms() {
        check.says(26, "MENDED: BEST CHANGE is done as long as REACH grows, at most 4 times.");
        DartHangar still = Check.hands(Check.STONE);
        check.due(0, still.mend(1, 0, 0, false), "a like REACH does not grow");
        check.due(2, still.fold(1, 0), "the WAY is as it was");
        check.due(0, still.mend(0, 0, 0, false), "no FOLDS");
        check.due(0, still.mend(1, 0, 1, true), "no THROWS");
        // Six CHANGES would make it better: four are done, then two.
        DartHangar six = thrown(20, 12, "", 284, 1, 1, 101, 202, 202);
        check.due(4, six.mend(0, -5, 0, false), "four of six");
        check.due(2, six.mend(0, -5, 0, false), "the other two");
        check.due(0, six.mend(0, -5, 0, false), "none any more");
        // Just three, and none behind them.
        DartHangar three = thrown(20, 11, "", 162, 4, 101, 202, 1, 202);
        long was = three.reach(0, 9, 0, false);
        check.due(3, three.mend(0, 9, 0, false), "three");
        check.due(true, three.reach(0, 9, 0, false) > was, "REACH grew");
        check.due(true, three.change(0, 9, 0, false, 2) <= three.reach(0, 9, 0, false), "no CHANGE makes it grow any more");
        check.due(0, three.mend(0, 9, 0, false), "none any more");
    }
}

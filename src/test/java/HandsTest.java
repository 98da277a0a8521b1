/** Promises 20 to 33: hands, reach, ears, the best way, changes, hoops, odds, contests, hours, seen, found. */
public final class HandsTest {
    private static final Check check = new Check();

    public static void main(String[] args) {
        hand();
        toss();
        reach();
        ears();
        best();
        change();
        mend();
        hoop();
        odds();
        enter();
        wins();
        hours();
        seen();
        found();
        check.end();
    }

    /** WAY 0 is the whole sheet, WAY 1 nose 2, WAY 2 has no MAKE; HAND 0 throws 100 at 0 (2) and at 16 (1), HAND 1 not at all. */
    private static DartHangar hangar(String law) {
        DartHangar h = new DartHangar();
        Check.way(h, "");
        Check.way(h, "nose 2;");
        Check.way(h, "nose 5;");
        if (!law.isEmpty()) {
            Check.law(h, law);
        }
        h.hand();
        h.toss(0, 100, 0, 2);
        h.toss(0, 100, 16, 1);
        h.hand();
        return h;
    }

    private static void hand() {
        check.promise(20);
        DartHangar h = new DartHangar();
        for (int i = 0; i < 5; i++) {
            check.due(i, h.hand(), "HAND " + i);
        }
        check.due(-1, h.hand(), "a sixth HAND");
        check.due(5, h.count(1), "HANDS");
        // A number that an IMAGE took back comes again without THROWS.
        DartHangar again = new DartHangar();
        Check.way(again, "");
        again.image(0);
        again.hand();
        again.toss(0, 100, 0, 1);
        again.restore(0);
        check.due(0, again.hand(), "a HAND behind restore");
        check.due(0, again.reach(0, 0, 0, true), "its REACH");
        check.due(1, again.toss(0, 100, 0, 1), "its first THROW");
    }

    private static void toss() {
        check.promise(21);
        DartHangar h = new DartHangar();
        check.refused(Check.NO_ELEMENT, "toss of no HAND, wrong numbers", () -> h.toss(0, 0, 0, 0));
        h.hand();
        check.due(1, h.toss(0, 10, -16, 1), "the first THROW");
        check.due(2, h.toss(0, 999, 16, 9), "the second THROW");
        int[][] wrong = {{9, 0, 1}, {1000, 0, 1}, {10, -17, 1}, {10, 17, 1}, {10, 0, 0}, {10, 0, 10}, {Integer.MIN_VALUE, 0, 1}};
        for (int[] a : wrong) {
            check.refused(Check.ARGUMENT, "toss(0, " + a[0] + ", " + a[1] + ", " + a[2] + ")", () -> h.toss(0, a[0], a[1], a[2]));
        }
        check.due(3, h.toss(0, 10, 0, 1), "the third THROW");
        check.due(4, h.toss(0, 10, 0, 1), "the fourth THROW");
        check.due(-1, h.toss(0, 10, 0, 1), "a fifth THROW");
        check.refused(Check.ARGUMENT, "a wrong fifth THROW", () -> h.toss(0, 10, 0, 0));
        check.refused(Check.NO_ELEMENT, "toss(1, ..)", () -> h.toss(1, 10, 0, 1));
        check.refused(Check.NO_ELEMENT, "toss(-1, ..)", () -> h.toss(-1, 10, 0, 1));
    }

    private static void reach() {
        check.promise(22);
        DartHangar h = hangar(Check.STONE);
        check.due(2 * 2000, h.reach(0, 0, 0, false), "REACH, far");
        check.due(2 * 20 + 32, h.reach(0, 0, 0, true), "REACH, long");
        check.due(0, h.reach(0, 0, 1, false), "REACH of a HAND without THROWS");
        DartHangar lift = hangar("");
        for (int e = -9; e <= 9; e += 3) {
            check.due(2 * lift.fly(1, e, 100, 0, 0) + lift.fly(1, e, 100, 16, 0), lift.reach(1, e, 0, false), "REACH, far, EARS " + e);
            check.due(2 * lift.fly(1, e, 100, 0, 1) + lift.fly(1, e, 100, 16, 1), lift.reach(1, e, 0, true), "REACH, long, EARS " + e);
        }
        check.refused(Check.ARGUMENT, "reach with EARS 10", () -> h.reach(0, 10, 0, true));
        check.refused(Check.STATE, "reach without a MAKE", () -> h.reach(2, 10, 0, true));
        check.refused(Check.NO_ELEMENT, "reach by no HAND, without a MAKE", () -> h.reach(2, 10, 2, true));
        check.refused(Check.NO_ELEMENT, "reach of no WAY", () -> h.reach(3, 10, 0, true));
    }

    private static void ears() {
        check.promise(23);
        DartHangar h = hangar(Check.STONE);
        check.due(0, h.ears(0, 0, false), "all EARS alike");
        check.due(0, h.ears(0, 1, true), "no THROWS");
        DartHangar lift = hangar("");
        for (int way = 0; way <= 1; way++) {
            for (int lasts = 0; lasts <= 1; lasts++) {
                check.due(earsByHand(lift, way, lasts == 1), lift.ears(way, 0, lasts == 1), "BEST EARS of WAY " + way + ", " + lasts);
            }
        }
        earsOfLikeOnes();
        check.refused(Check.STATE, "ears without a MAKE", () -> h.ears(2, 0, true));
        check.refused(Check.NO_ELEMENT, "ears by no HAND, without a MAKE", () -> h.ears(2, 2, true));
        check.refused(Check.NO_ELEMENT, "ears of no WAY", () -> h.ears(-1, 0, true));
    }

    private static int earsByHand(DartHangar h, int way, boolean lasts) {
        int best = 0;
        for (int i = 1; i <= 9; i++) {
            best = h.reach(way, -i, 0, lasts) > h.reach(way, best, 0, lasts) ? -i : best;
            best = h.reach(way, i, 0, lasts) > h.reach(way, best, 0, lasts) ? i : best;
        }
        return best;
    }

    private static void earsOfLikeOnes() {
        // LEVER 0, drag least when the nose is off the PATH: EARS of both signs slow it less than 0.
        DartHangar h = new DartHangar();
        Check.way(h, "");
        Check.law(h, "lift 0 0 0 0 0 0 0 0 0;drag 9 0 0 0 0 0 0 0 0;turn 99;pull 1;slow 0;");
        h.hand();
        h.toss(0, 400, 0, 1);
        int best = 0;
        for (int e = -9; e <= 9; e++) {
            long r = h.reach(0, e, 0, true);
            long most = h.reach(0, best, 0, true);
            boolean nearer = Math.abs(e) < Math.abs(best) || Math.abs(e) == Math.abs(best) && e < best;
            best = r > most || r == most && nearer ? e : best;
        }
        check.due(best, h.ears(0, 0, true), "BEST EARS of like ones");
    }

    private static void best() {
        check.promise(24);
        DartHangar h = hangar(Check.STONE);
        check.due(0, h.best(0, false), "all WAYS alike");
        h.sheet(4, 3);
        check.due(0, h.best(0, false), "BEST WAY of another SHEET");
        DartHangar none = new DartHangar();
        none.hand();
        check.due(-1, none.best(0, true), "no WAY");
        Check.way(none, "nose 5;");
        check.due(-1, none.best(0, true), "no WAY with a MAKE");
        Check.way(none, "corner 7;");
        Check.way(none, "nose 1;");
        check.due(2, none.best(0, true), "the only WAY with a MAKE, no THROWS");
        check.refused(Check.NO_ELEMENT, "best by no HAND", () -> none.best(1, true));
        DartHangar lift = hangar("");
        Check.way(lift, "nose 3;");
        Check.way(lift, "nose 1;side 2;");
        for (int lasts = 0; lasts <= 1; lasts++) {
            boolean l = lasts == 1;
            int best = 0;
            for (int way = 1; way < 5; way++) {
                if (lift.breaks(way) == -1) {
                    best = lift.reach(way, lift.ears(way, 0, l), 0, l) > lift.reach(best, lift.ears(best, 0, l), 0, l) ? way : best;
                }
            }
            check.due(best, lift.best(0, l), "BEST WAY, " + lasts);
        }
        // A WAY whose REACH is below 0 is better than none.
        DartHangar back = new DartHangar();
        Check.way(back, "");
        Check.law(back, "lift 0 0 0 0 0 0 0 0 0;drag 99 0 0 0 0 0 0 0 0;thin 1;turn 0;");
        back.hand();
        back.toss(0, 999, 0, 1);
        check.due(1, back.reach(0, 0, 0, false) < 0 ? 1 : 0, "a REACH below 0");
        check.due(0, back.best(0, false), "BEST WAY by a REACH below 0");
    }

    private static void change() {
        check.promise(25);
        DartHangar h = hangar(Check.STONE);
        for (int what = 0; what <= 2; what++) {
            check.due(-1, h.change(0, 0, 0, false, what), "no FOLD to change, what " + what);
        }
        check.due(0, h.change(1, 0, 0, false, 0), "which FOLD");
        check.due(1, h.change(1, 0, 0, false, 1), "nose 1 is the first of like ones");
        check.due(4000, h.change(1, 0, 0, false, 2), "REACH then");
        check.due(2, h.fold(1, 0), "the WAY stays as it is");
        int one = Check.way(h, "nose 1;");
        check.due(2, h.change(one, 0, 0, false, 1), "a FOLD becomes another one: nose 2");
        int thick = Check.way(h, "nose 4;nose 2;");
        check.due(0, h.change(thick, 0, 0, false, 0), "the first FOLD of like ones");
        check.due(1, h.change(thick, 0, 0, false, 1), "nose 1 of like ones");
        changesByHand();
        check.refused(Check.ARGUMENT, "change with EARS 10", () -> h.change(1, 10, 0, true, 0));
        check.refused(Check.ARGUMENT, "change(.. 3)", () -> h.change(1, 0, 0, true, 3));
        check.refused(Check.ARGUMENT, "change(.. -1)", () -> h.change(1, 0, 0, true, -1));
        check.refused(Check.STATE, "change without a MAKE", () -> h.change(2, 10, 0, true, 3));
        check.refused(Check.NO_ELEMENT, "change by no HAND, without a MAKE", () -> h.change(2, 10, 2, true, 3));
        check.refused(Check.NO_ELEMENT, "change of no WAY", () -> h.change(9, 10, 0, true, 3));
    }

    private static final String[] KINDS = {"nose", "side", "corner"};

    private static void changesByHand() {
        DartHangar h = hangar("");
        int way = Check.way(h, "nose 2;corner 3;");
        for (int lasts = 0; lasts <= 1; lasts++) {
            for (int e = -6; e <= 6; e += 3) {
                long[] want = changeByHand(h, new int[] {2, 203}, e, lasts == 1);
                for (int what = 0; what <= 2; what++) {
                    check.due(want[what], h.change(way, e, 0, lasts == 1, what), "change(" + way + ", " + e + ", 0, " + lasts + ", " + what + ")");
                }
            }
        }
    }

    /** BEST CHANGE by the other calls alone: each changed WAY is written as a text of its own. */
    private static long[] changeByHand(DartHangar h, int[] codes, int ears, boolean lasts) {
        long[] best = {-1, -1, -1};
        h.image(2);
        for (int i = 0; i < codes.length; i++) {
            for (int f = 0; f < 18; f++) {
                int code = 100 * (f / 6) + f % 6 + 1;
                StringBuilder text = new StringBuilder();
                for (int k = 0; k < codes.length; k++) {
                    int c = k == i ? code : codes[k];
                    text.append(KINDS[c / 100]).append(' ').append(c % 100).append(';');
                }
                int way = Check.way(h, text.toString());
                if (code != codes[i] && h.breaks(way) == -1) {
                    long r = h.reach(way, ears, 0, lasts);
                    best = best[0] == -1 || r > best[2] ? new long[] {i, code, r} : best;
                }
                h.restore(2);
            }
        }
        return best;
    }

    private static void mend() {
        check.promise(26);
        DartHangar still = hangar(Check.STONE);
        check.due(0, still.mend(1, 0, 0, false), "nothing grows");
        check.due(2, still.fold(1, 0), "the WAY is as it was");
        check.due(0, still.mend(0, 0, 0, false), "no FOLDS");
        DartHangar h = hangar("");
        int way = Check.way(h, "nose 1;side 1;nose 1;corner 2;");
        int[] codes = {1, 101, 1, 202};
        int done = 0;
        long reached = h.reach(way, 4, 0, false);
        while (done < 4) {
            long[] best = changeByHand(h, codes, 4, false);
            if (best[0] == -1 || best[2] <= reached) {
                break;
            }
            reached = best[2];
            codes[(int) best[0]] = (int) best[1];
            done++;
        }
        check.due(1, done > 0 ? 1 : 0, "that WAY can be mended");
        check.due(done, h.mend(way, 4, 0, false), "how many CHANGES were done");
        for (int i = 0; i < 4; i++) {
            check.due(codes[i], h.fold(way, i), "FOLD " + i + " as they made it");
        }
        check.due(4, h.fold(way, -1), "as many FOLDS");
        check.due(reached, h.reach(way, 4, 0, false), "REACH then");
        check.refused(Check.ARGUMENT, "mend with EARS -10", () -> h.mend(1, -10, 0, true));
        check.refused(Check.STATE, "mend without a MAKE", () -> h.mend(2, 10, 0, true));
        check.refused(Check.NO_ELEMENT, "mend by no HAND", () -> h.mend(2, 10, 2, true));
        check.refused(Check.NO_ELEMENT, "mend of no WAY", () -> h.mend(-1, 10, 0, true));
    }

    private static void hoop() {
        check.promise(27);
        DartHangar h = hangar(Check.STONE);
        // Behind TICK 10: X 1000, Y 1450; behind TICK 20: X 2000, Y -100.
        check.due(true, h.hoop(0, 0, 100, 0, 1000, 1450, 1450), "at 1000");
        check.due(true, h.hoop(0, 0, 100, 0, 901, 1450, 9999), "from 901");
        check.due(false, h.hoop(0, 0, 100, 0, 900, 1450, 1450), "900 is reached a TICK before");
        check.due(false, h.hoop(0, 0, 100, 0, 1000, 1451, 9999), "below it");
        check.due(false, h.hoop(0, 0, 100, 0, 1000, 0, 1449), "above it");
        check.due(false, h.hoop(0, 0, 100, 0, 2000, 0, 9999), "in the floor");
        check.due(false, h.hoop(0, 0, 100, 0, 2001, 0, 9999), "behind the end");
        check.due(false, h.hoop(0, 0, 100, 16, 1, 0, 9999), "straight up");
        check.due(true, h.hoop(0, 0, 100, 0, 1, 0, 9999), "at 1");
        h.crate(950, 9999);
        check.due(true, h.hoop(0, 0, 100, 0, 950, 0, 9999), "a CRATE at the HOOP");
        check.due(false, h.hoop(0, 0, 100, 0, 951, 0, 9999), "a CRATE ahead of it");
        h.still();
        h.draught(1, 200, 10);
        check.due(true, h.hoop(0, 0, 100, 0, 20000, 2000, 2000), "in TICK 200");
        check.due(false, h.hoop(0, 0, 100, 0, 20001, 2000, 2000), "in TICK 201");
        h.still();
        int[][] wrong = {{0, 0, 5}, {100000, 0, 5}, {5, -1, 5}, {5, 0, 10000}, {5, 6, 5}, {5, 10000, 10000}};
        for (int[] a : wrong) {
            check.refused(Check.ARGUMENT, "hoop(.. " + a[0] + ", " + a[1] + ", " + a[2] + ")", () -> h.hoop(0, 0, 100, 0, a[0], a[1], a[2]));
            check.refused(Check.ARGUMENT, "odds(.. " + a[0] + ", " + a[1] + ", " + a[2] + ")", () -> h.odds(0, 0, 0, 1, a[0], a[1], a[2]));
        }
        check.due(false, h.hoop(0, 0, 100, 0, 99999, 9999, 9999), "the bounds");
        check.refused(Check.ARGUMENT, "hoop with EARS 10", () -> h.hoop(0, 10, 100, 0, 1, 0, 1));
        check.refused(Check.ARGUMENT, "hoop with SPEED 9", () -> h.hoop(0, 0, 9, 0, 1, 0, 1));
        check.refused(Check.ARGUMENT, "hoop with SLANT -17", () -> h.hoop(0, 0, 10, -17, 1, 0, 1));
        check.refused(Check.STATE, "hoop without a MAKE", () -> h.hoop(2, 10, 100, 0, 0, 0, 1));
        check.refused(Check.NO_ELEMENT, "hoop of no WAY", () -> h.hoop(3, 10, 100, 0, 0, 0, 1));
    }

    private static void odds() {
        check.promise(28);
        DartHangar h = hangar(Check.STONE);
        h.toss(0, 100, 0, 9);
        h.toss(0, 100, -16, 4);
        // 11 of 16 go through.
        long[] want = {0, 11, 256 - 25, 4096 - 125, 65536 - 625};
        for (int n = 1; n <= 4; n++) {
            check.due(want[n], h.odds(0, 0, 0, n, 1000, 1450, 1450), "ODDS of " + n + " tries");
        }
        check.due(0, h.odds(0, 0, 0, 4, 1000, 1451, 1460), "none goes through");
        check.due(0, h.odds(0, 0, 1, 4, 1000, 1450, 1450), "no THROWS");
        check.refused(Check.ARGUMENT, "odds of 0 tries", () -> h.odds(0, 0, 0, 0, 1, 0, 1));
        check.refused(Check.ARGUMENT, "odds of 5 tries", () -> h.odds(0, 0, 0, 5, 1, 0, 1));
        check.refused(Check.ARGUMENT, "odds with EARS 10", () -> h.odds(0, 10, 0, 1, 1, 0, 1));
        check.refused(Check.STATE, "odds without a MAKE", () -> h.odds(2, 10, 0, 0, 0, 0, 1));
        check.refused(Check.NO_ELEMENT, "odds by no HAND", () -> h.odds(2, 10, 2, 0, 0, 0, 1));
        check.refused(Check.NO_ELEMENT, "odds of no WAY", () -> h.odds(3, 10, 0, 0, 0, 0, 1));
    }

    private static void enter() {
        check.promise(29);
        DartHangar h = hangar(Check.STONE);
        check.due(0, h.enter(0, 9, 0), "the first ENTRY");
        check.due(1, h.enter(2, -9, 1), "an ENTRY without a MAKE, by a HAND without THROWS");
        check.refused(Check.ARGUMENT, "enter with EARS 10", () -> h.enter(0, 10, 0));
        check.refused(Check.NO_ELEMENT, "enter of no WAY, wrong EARS", () -> h.enter(3, 10, 0));
        check.refused(Check.NO_ELEMENT, "enter of no HAND, wrong EARS", () -> h.enter(0, 10, 2));
        check.due(2, h.count(12), "ENTRIES");
        check.due(2, h.enter(0, 0, 0), "the third ENTRY");
        check.due(3, h.enter(0, 0, 0), "the fourth ENTRY");
        check.due(-1, h.enter(0, 0, 0), "a fifth ENTRY");
        check.refused(Check.ARGUMENT, "a wrong fifth ENTRY", () -> h.enter(0, 10, 0));
        check.due(4, h.count(12), "ENTRIES");
    }

    private static void wins() {
        check.promise(30);
        DartHangar h = hangar(Check.STONE);
        check.refused(Check.NO_ELEMENT, "wins(0)", () -> h.wins(0));
        h.enter(0, 0, 0);
        check.due(3, h.wins(0), "one alone wins all its rows");
        // HAND 1: 100 at 0 (3: FAR 2000), 50 at 0 (5: FAR 1000). HAND 0: FAR 2000 (2), 0 (1).
        h.toss(1, 100, 0, 3);
        h.toss(1, 50, 0, 5);
        h.enter(1, 0, 1);
        check.due(2 * 5, h.wins(0), "wins(0) of two");
        check.due((3 + 5) * 1, h.wins(1), "wins(1) of two");
        h.hand();
        h.toss(2, 200, 0, 9);
        h.toss(2, 10, -16, 7);
        // ENTRY 2: FAR 4000 (9), 0 (7).
        h.enter(0, 0, 2);
        check.due(2 * 5 * 7, h.wins(0), "wins(0) of three");
        check.due(8 * 1 * 7, h.wins(1), "wins(1) of three");
        check.due(9 * 8 * 3, h.wins(2), "wins(2) of three");
        h.image(0);
        h.hand();
        h.enter(0, 0, 3);
        check.due(0, h.wins(2), "a HAND without THROWS");
        h.restore(0);
        h.enter(2, 0, 0);
        check.due(0, h.wins(2), "a WAY without a MAKE");
        h.sheet(10, 6);
        check.due(9 * 8 * 3 * 3, h.wins(2), "the SHEET gives it one");
        check.refused(Check.NO_ELEMENT, "wins(4)", () -> h.wins(4));
        check.refused(Check.NO_ELEMENT, "wins(-1)", () -> h.wins(-1));
    }

    private static void hours() {
        check.promise(31);
        DartHangar h = hangar(Check.STONE);
        check.due(0, h.hours(0, 9, 0, false, 4001), "below at once");
        check.due(-1, h.hours(0, 9, 0, false, 4000), "never below");
        check.due(0, h.hours(0, -9, 0, true, 73), "long");
        check.due(-1, h.hours(0, 0, 0, true, Long.MIN_VALUE), "the least limit");
        check.due(0, h.hours(0, 0, 1, true, Long.MAX_VALUE), "the greatest limit");
        DartHangar lift = hangar("");
        for (int e = -9; e <= 9; e += 3) {
            for (int limit = 100; limit < 6000; limit += 270) {
                int want = -1;
                for (int hour = 18; hour >= 0; hour--) {
                    int left = Math.max(0, Math.abs(e) - hour / 2);
                    want = lift.reach(1, e < 0 ? -left : left, 0, false) < limit ? hour : want;
                }
                check.due(want, lift.hours(1, e, 0, false, limit), "hours(1, " + e + ", 0, false, " + limit + ")");
            }
        }
        check.refused(Check.ARGUMENT, "hours with EARS 10", () -> h.hours(0, 10, 0, true, 1));
        check.refused(Check.STATE, "hours without a MAKE", () -> h.hours(2, 10, 0, true, 1));
        check.refused(Check.NO_ELEMENT, "hours by no HAND", () -> h.hours(2, 10, 2, true, 1));
        check.refused(Check.NO_ELEMENT, "hours of no WAY", () -> h.hours(3, 10, 0, true, 1));
    }

    private static void seen() {
        check.promise(32);
        DartHangar h = hangar(Check.STONE);
        check.due((1 << 19) - 1, h.seen(0, 100, 0, 2000, 20), "all EARS");
        check.due(0, h.seen(0, 100, 0, 2000, 19), "another LONG");
        check.due(0, h.seen(0, 100, 0, 1999, 20), "another FAR");
        DartHangar lift = hangar("");
        for (int e = -9; e <= 9; e++) {
            int far = lift.fly(1, e, 300, 4, 0);
            int lasted = lift.fly(1, e, 300, 4, 1);
            int want = 0;
            for (int k = -9; k <= 9; k++) {
                if (lift.fly(1, k, 300, 4, 0) == far && lift.fly(1, k, 300, 4, 1) == lasted) {
                    want |= 1 << (k + 9);
                }
            }
            check.due(want, lift.seen(1, 300, 4, far, lasted), "EARS of what EARS " + e + " make");
        }
        check.refused(Check.ARGUMENT, "seen with SPEED 9", () -> h.seen(0, 9, 0, 0, 0));
        check.refused(Check.ARGUMENT, "seen with SPEED 1000", () -> h.seen(0, 1000, 0, 0, 0));
        check.refused(Check.ARGUMENT, "seen with SLANT 17", () -> h.seen(0, 10, 17, 0, 0));
        check.refused(Check.STATE, "seen without a MAKE", () -> h.seen(2, 9, 0, 0, 0));
        check.refused(Check.NO_ELEMENT, "seen of no WAY", () -> h.seen(3, 9, 0, 0, 0));
    }

    private static void dueFound(DartHangar h, int area, int front, int... want) {
        for (int i = 0; i < 3; i++) {
            check.due(i < want.length ? want[i] : -1, h.found(area, front, i - 1), "found(" + area + ", " + front + ", " + (i - 1) + ")");
        }
        check.due(-1, h.found(area, front, 2), "found(.. 2)");
        check.due(-1, h.found(area, front, -2), "found(.. -2)");
    }

    private static void found() {
        check.promise(33);
        DartHangar h = new DartHangar();
        dueFound(h, 48, 384, 0);
        dueFound(h, 36, 240, 1, 2);
        // side 2: 8 ROWS of 4 COLUMNS; also two times side 1, but by more FOLDS.
        dueFound(h, 32, 384, 1, 102);
        // nose 1 (42 CELLS, 7 ROWS) and side 1 (7 by 5): G is that of nose 1: 48 LAYERS, 2 in ROW 0: 6 (2 + 3 + .. + 13) = 300.
        dueFound(h, 35, 300, 2, 1, 101);
        dueFound(h, 1, 1, -1);
        dueFound(h, 48, 385, -1);
        dueFound(h, -1, Integer.MIN_VALUE, -1);
        h.sheet(4, 3);
        dueFound(h, 12, 48, 0);
        dueFound(h, 48, 384, -1);
        dueFound(h, 9, 56, 1, 203);
        Check.way(h, "nose 2;");
        h.found(9, 56, 0);
        check.due(2, h.fold(0, 0), "a WAY behind found");
    }
}
